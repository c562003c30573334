/-! GCM in the model: the streams, and all of it -/
theorem zrow_s (a i : Nat) (g f : Rw) : upd (zrow a i g f) (a + i) (g i) = zrow a (i + 1) g f := by
  funext j
  by_cases e : j = a + i
  · subst e
    rw [upd_s, zrow_in (by omega) (by omega), show a + i - a = i by omega]
  · rw [upd_n _ _ e]
    by_cases h : a ≤ j ∧ j < a + i
    · rw [zrow_in h.1 h.2, zrow_in h.1 (by omega)]
    · rw [zrow_out (by omega), zrow_out (by omega)]
theorem eqN_upd {n k : Nat} {s t : Rw} {x y : Int32} (h : eqN n s t) (e : x = y) : eqN n (upd s k x) (upd t k y) := by
  subst e
  intro j hj
  by_cases hc : j = k
  · subst hc
    rw [upd_s, upd_s]
  · rw [upd_n _ _ hc, upd_n _ _ hc, h j hj]
set_option maxHeartbeats 8000000 in
theorem l_gal82 {p x tx R : Nat} {bx rk mb m : Rw} (sl : Int32) (bl o re : Rw) (K : Rw → Rw → Rw → Option _) (P : Option _ → Prop) (hm : eqN 512 mb m) (u : isU8 m 512) (hp : p + 12 ≤ 512) (hx : x + tx ≤ 512) (hbx : ∀ k, k < 256 → bx k = tb_BOX.getD k 0) (hk : isU8 rk (16 * (R + 1))) (h1 : 1 ≤ R) (hR : R ≤ 14)
    (hK : ∀ bl' o' re', (∀ j, j < tx → re' j = if sl = 0 then m (x + j) else m (x + j) ^^^ gStr (aesE rk R) m p (j / 16) (j % 16)) → P (K bl' o' re')) : P (zl (b_X10_galois_82 sl (nI p) (nI R) bx mb rk (nI tx) (nI x) K) zF ((0 : Int32), bl, o, re)) := by
  refine zl_up (F := b_X10_galois_82 sl (nI p) (nI R) bx mb rk (nI tx) (nI x) K) (fun i (s : Rw × Rw × Rw) => (nI i, s.1, s.2.1, s.2.2)) (fun i s => (∀ j, j < i → s.2.2 j = if sl = 0 then m (x + j) else m (x + j) ^^^ gStr (aesE rk R) m p (j / 16) (j % 16)) ∧ (¬ i % 16 = 0 → eq16 s.1 (gStr (aesE rk R) m p (i / 16)))) 0 tx (bl, o, re) P (by omega) (by omega) ⟨fun j hj => by omega, fun h => absurd rfl h⟩ ?_ ?_
  · intro self s hs
    obtain ⟨bl, o, re⟩ := s
    simp only [b_X10_galois_82]
    rw [if_pos (nI_le (Nat.le_refl _) (by omega))]
    exact hK _ _ _ hs.1
  · intro self i s _ hi hs
    obtain ⟨bl, o, re⟩ := s
    obtain ⟨h2, h3⟩ := hs
    dsimp only at h2 h3
    have hmod : nI i - nI i / (16 : Int32) * (16 : Int32) = nI (i % 16) := nI_mod (n := 16) (by omega) (by omega) (by omega)
    have fin : ∀ b2 o2, eq16 b2 (gStr (aesE rk R) m p (i / 16)) → ∃ s' : Rw × Rw × Rw, ((∀ j, j < i + 1 → s'.2.2 j = if sl = 0 then m (x + j) else m (x + j) ^^^ gStr (aesE rk R) m p (j / 16) (j % 16)) ∧ (¬ (i + 1) % 16 = 0 → eq16 s'.1 (gStr (aesE rk R) m p ((i + 1) / 16)))) ∧ zk (¬ (16 : Int32) = 0) (zk (¬ (nI (i % 16) < 0 ∨ 16 ≤ (nI (i % 16)).toNatClampNeg)) (zn ((b2 (nI (i % 16)).toNatClampNeg) : Int32) (fun x_112 => zk (¬ ((nI x + nI i) < 0 ∨ 512 ≤ (nI x + nI i).toNatClampNeg)) (if sl = 0 then zk (¬ (nI i < 0 ∨ 600 ≤ (nI i).toNatClampNeg)) (zn ((upd re (nI i).toNatClampNeg ((mb (nI x + nI i).toNatClampNeg) ^^^ (0 : Int32))) : Nat → Int32) (fun c_result_115 => self ((nI i + (1 : Int32)), b2, o2, c_result_115))) else zk (¬ (nI i < 0 ∨ 600 ≤ (nI i).toNatClampNeg)) (zn ((upd re (nI i).toNatClampNeg ((mb (nI x + nI i).toNatClampNeg) ^^^ x_112)) : Nat → Int32) (fun c_result_116 => self ((nI i + (1 : Int32)), b2, o2, c_result_116))))))) = self (nI (i + 1), s'.1, s'.2.1, s'.2.2) := by
      intro b2 o2 hb2
      refine ⟨(b2, o2, upd re i (if sl = 0 then m (x + i) else m (x + i) ^^^ gStr (aesE rk R) m p (i / 16) (i % 16))), ⟨fun j hj => ?_, fun hc => ?_⟩, ?_⟩
      · show upd re i (if sl = 0 then m (x + i) else m (x + i) ^^^ gStr (aesE rk R) m p (i / 16) (i % 16)) j = _
        by_cases e : j = i
        · subst e
          rw [upd_s]
        · rw [upd_n _ _ e]
          exact h2 j (by omega)
      · rw [show (i + 1) / 16 = i / 16 by omega]
        exact hb2
      · have e1 : mb (x + i) = m (x + i) := hm _ (by omega)
        have e2 : b2 (i % 16) = gStr (aesE rk R) m p (i / 16) (i % 16) := hb2 _ (by omega)
        by_cases hsl : sl = 0
        · simp (disch := omega) only [hsl, ite_true, nI_add, zA, zCl, zki, zki2, znE, zlt2, e1, e2, xor0]
          rw [zkn (by decide) (by decide)]
        · simp (disch := omega) only [hsl, ite_false, nI_add, zA, zCl, zki, zki2, znE, zlt2, e1, e2]
          rw [zkn (by decide) (by decide)]
    simp only [b_X10_galois_82]
    rw [if_neg (nI_ge hi (by omega)), hmod, zkn (by decide) (by decide), zjE]
    by_cases hz : i % 16 = 0
    · obtain ⟨b2, o2, e2, g2⟩ := p_X10_counterBlock (p := p) (bx := bx) (mb := mb) (m := m) (nI (2 + i / 16)) bl o (fun t ht => hm _ (by omega)) u hp hbx hk h1 hR
      rw [if_pos (by rw [hz]; rfl), zkn (by decide) (by decide), zDv (by omega) (by decide) (by decide), zA2, e2]
      simp only [zbE]
      exact fin _ _ g2
    · rw [if_neg (show ¬ nI (i % 16) = 0 from fun q => hz ((nI_eq (b := 0) (by omega) (by omega)).mp q))]
      exact fin _ _ (h3 hz)
set_option maxHeartbeats 8000000 in
theorem l_gal428 {p x tx R : Nat} {bx rk mb m : Rw} (bl o : Rw) (K : Rw → Rw → Rw → Option _) (P : Option _ → Prop) (hm : eqN 512 mb m) (u : isU8 m 512) (hp : p + 12 ≤ x) (hx : x + tx ≤ 512) (hbx : ∀ k, k < 256 → bx k = tb_BOX.getD k 0) (hk : isU8 rk (16 * (R + 1))) (h1 : 1 ≤ R) (hR : R ≤ 14)
    (hK : ∀ bl' bu' o', eqN 512 bu' (stX (gStr (aesE rk R) m p) x tx m) → P (K bl' bu' o')) : P (zl (b_X10_galois_428 (nI p) (nI R) bx rk (nI tx) (nI x) K) zF ((0 : Int32), bl, mb, o)) := by
  refine zl_up (F := b_X10_galois_428 (nI p) (nI R) bx rk (nI tx) (nI x) K) (fun i (s : Rw × Rw × Rw) => (nI i, s.1, s.2.1, s.2.2)) (fun i s => eqN 512 s.2.1 (stX (gStr (aesE rk R) m p) x i m) ∧ (¬ i % 16 = 0 → eq16 s.1 (gStr (aesE rk R) m p (i / 16)))) 0 tx (bl, mb, o) P (by omega) (by omega) ⟨by rw [stX_0]; exact hm, fun h => absurd rfl h⟩ ?_ ?_
  · intro self s hs
    obtain ⟨bl, bu, o⟩ := s
    simp only [b_X10_galois_428]
    rw [if_pos (nI_le (Nat.le_refl _) (by omega))]
    exact hK _ _ _ hs.1
  · intro self i s _ hi hs
    obtain ⟨bl, bu, o⟩ := s
    obtain ⟨h2, h3⟩ := hs
    dsimp only at h2 h3
    have hmod : nI i - nI i / (16 : Int32) * (16 : Int32) = nI (i % 16) := nI_mod (n := 16) (by omega) (by omega) (by omega)
    have fin : ∀ b2 o2, eq16 b2 (gStr (aesE rk R) m p (i / 16)) → ∃ s' : Rw × Rw × Rw, (eqN 512 s'.2.1 (stX (gStr (aesE rk R) m p) x (i + 1) m) ∧ (¬ (i + 1) % 16 = 0 → eq16 s'.1 (gStr (aesE rk R) m p ((i + 1) / 16)))) ∧ zk (¬ ((nI x + nI i) < 0 ∨ 512 ≤ (nI x + nI i).toNatClampNeg)) (zk (¬ (16 : Int32) = 0) (zk (¬ (nI (i % 16) < 0 ∨ 16 ≤ (nI (i % 16)).toNatClampNeg)) (zk (¬ ((nI x + nI i) < 0 ∨ 512 ≤ (nI x + nI i).toNatClampNeg)) (zn ((upd bu (nI x + nI i).toNatClampNeg ((bu (nI x + nI i).toNatClampNeg) ^^^ (b2 (nI (i % 16)).toNatClampNeg))) : Nat → Int32) (fun c_buffer_72 => self ((nI i + (1 : Int32)), b2, c_buffer_72, o2)))))) = self (nI (i + 1), s'.1, s'.2.1, s'.2.2) := by
      intro b2 o2 hb2
      refine ⟨(b2, upd bu (x + i) (bu (x + i) ^^^ b2 (i % 16)), o2), ⟨?_, fun hc => ?_⟩, ?_⟩
      · show eqN 512 (upd bu (x + i) (bu (x + i) ^^^ b2 (i % 16))) (stX (gStr (aesE rk R) m p) x (i + 1) m)
        unfold stX
        rw [← zrow_s]
        refine eqN_upd h2 ?_
        rw [h2 _ (by omega), hb2 _ (by omega), show stX (gStr (aesE rk R) m p) x i m (x + i) = m (x + i) from zrow_out (by omega)]
      · rw [show (i + 1) / 16 = i / 16 by omega]
        exact hb2
      · simp (disch := omega) only [nI_add, zA, zCl, zki, zki2, znE, zlt2]
        rw [zkn (by decide) (by decide)]
    simp only [b_X10_galois_428]
    rw [if_neg (nI_ge hi (by omega)), hmod, zkn (by decide) (by decide), zjE]
    by_cases hz : i % 16 = 0
    · obtain ⟨b2, o2, e2, g2⟩ := p_X10_counterBlock (p := p) (bx := bx) (mb := bu) (m := m) (nI (2 + i / 16)) bl o (fun t ht => (h2 _ (by omega)).trans (zrow_out (by omega))) u (by omega) hbx hk h1 hR
      rw [if_pos (by rw [hz]; rfl), zkn (by decide) (by decide), zDv (by omega) (by decide) (by decide), zA2, e2]
      simp only [zbE]
      exact fin _ _ g2
    · rw [if_neg (show ¬ nI (i % 16) = 0 from fun q => hz ((nI_eq (b := 0) (by omega) (by omega)).mp q))]
      exact fin _ _ (h3 hz)
theorem l_gal495o {x tx : Nat} (th tl : Int64) (mb : Rw) (K : Rw → Option _) : zl (b_X10_galois_495 0 (nI tx) (nI x) th tl K) zF ((0 : Int32), mb) = K mb := by
  obtain ⟨q, hq⟩ : ∃ q, zF = q + 1 := ⟨zF - 1, by have := zF_big; omega⟩
  rw [hq]
  show b_X10_galois_495 0 (nI tx) (nI x) th tl K (zl (b_X10_galois_495 0 (nI tx) (nI x) th tl K) q) ((0 : Int32), mb) = K mb
  simp only [b_X10_galois_495]
  rw [if_neg (by decide), if_pos trivial]
set_option maxHeartbeats 8000000 in
theorem p_X10_galoisS {p hd tx R : Nat} {bx rk mb m : Rw} (q1 q2 q3 q4 : Int64) (bl bo o re : Rw) (hm : eqN 512 mb m) (u : isU8 m 512) (hp : p + 12 + hd + tx + 16 ≤ 512) (hbx : ∀ k, k < 256 → bx k = tb_BOX.getD k 0) (hk : isU8 rk (16 * (R + 1))) (h1 : 1 ≤ R) (hR : R ≤ 14) :
    ∃ r5 : L4, ∃ bl' bo' mb' o' re', f_X10_galois 1 (nI p) (nI (12 + hd + tx)) (nI hd) q1 q2 q3 q4 (nI R) bl bo bx mb o re rk = some (nI (12 + hd + tx + 16), r5.1, r5.2.1, r5.2.2.1, r5.2.2.2, bl', bo', mb', o', re') ∧ eqN 512 mb' (gSeal (aesE rk R) m p hd tx) := by
  have uE : ∀ s, isU8 s 16 → isU8 (aesE rk R s) 16 := fun s hs => aesE_u hs h1 hk
  have uz : isU8 (fun _ => (0 : Int32)) 16 := fun _ _ => (by decide : (0 : Int32) &&& 255 = 0)
  have zz : ∀ f, eq16 (zrow 0 16 (fun _ => 0) f) (fun _ => 0) := fun f => eq16_row
  obtain ⟨b1, o1, e1, g1⟩ := p_X10_seal (bx := bx) (b := zrow 0 16 (fun _ => 0) bl) o (eq16_u (zz bl) uz) hbx hk h1 hR
  have g1' : eq16 b1 (aesE rk R (fun _ => 0)) := eq16_t g1 (aesE_c (zz bl) h1 (fun _ _ => rfl))
  have eh0 : ∀ (b s : Rw), eq16 b s → f_X10_half (0 : Int32) b = some (L8 s) := fun b s hb => (p_X10_half (a := 0) b (by omega)).trans (congrArg some (L8_c (fun j hj => by rw [Nat.zero_add]; exact hb j (by omega))))
  have eh8 : ∀ (b s : Rw), eq16 b s → f_X10_half (8 : Int32) b = some (L8 (fun t => s (8 + t))) := fun b s hb => (p_X10_half (a := 8) b (by omega)).trans (congrArg some (L8_c (fun j hj => hb _ (by omega))))
  have ka : f_X10_half (0 : Int32) b1 = some (gKh (aesE rk R)) := eh0 _ _ g1'
  have kb : f_X10_half (8 : Int32) b1 = some (gKl (aesE rk R)) := eh8 _ _ g1'
  unfold f_X10_galois
  rw [zjE, if_neg (by decide)]
  have etx : nI (12 + hd + tx) - (12 : Int32) - nI hd = nI tx := by rw [zS (by omega), zSn (by omega), show 12 + hd + tx - 12 - hd = tx by omega]
  rw [etx]
  dsimp only
  rw [zA, nI_add, znE, zjE, l_gal35, e1]
  simp only [zbE]
  rw [ka, zbE, kb, zbE, zjE]
  refine l_gal82 1 b1 o1 re _ (fun q => ∃ r5 : L4, ∃ bl' bo' mb' o' re', q = some (nI (12 + hd + tx + 16), r5.1, r5.2.1, r5.2.2.1, r5.2.2.2, bl', bo', mb', o', re') ∧ eqN 512 mb' (gSeal (aesE rk R) m p hd tx)) hm u (by omega) (by omega) hbx hk h1 hR ?_
  intro b2 o2 re2 hre
  obtain ⟨re26, hre26⟩ : ∃ q, q = zrow 0 hd (fun t => mb (p + 12 + t)) re2 := ⟨_, rfl⟩
  obtain ⟨bo22, hbo22⟩ : ∃ q, q = zrow 0 tx re2 bo := ⟨_, rfl⟩
  have d1 : eqN hd re26 (fun t => m (p + 12 + t)) := fun t ht => by rw [hre26, zrow_0 ht]; exact hm _ (by omega)
  have d2 : eqN tx (zrow 0 tx bo22 re26) (fun t => gTx (aesE rk R) m p hd tx (p + 12 + hd + t)) := fun t ht => by
      rw [hbo22]
      exact by
        show _ = stX (gStr (aesE rk R) m p) (p + 12 + hd) tx m (p + 12 + hd + t)
        unfold stX
        rw [zrow_0 ht, zrow_0 ht, hre t ht, if_neg (by decide), zrow_in (by omega) (by omega), show p + 12 + hd + t - (p + 12 + hd) = t by omega]
  obtain ⟨s1, hs1⟩ : ∃ s, s = ga (gKh (aesE rk R)) (gKl (aesE rk R)) (fun t => m (p + 12 + t)) hd (0, 0) := ⟨_, rfl⟩
  obtain ⟨s2, hs2⟩ : ∃ s, s = ga (gKh (aesE rk R)) (gKl (aesE rk R)) (fun t => gTx (aesE rk R) m p hd tx (p + 12 + hd + t)) tx s1 := ⟨_, rfl⟩
  have eg : gSum (aesE rk R) (fun t => m (p + 12 + t)) hd (fun t => gTx (aesE rk R) m p hd tx (p + 12 + hd + t)) tx = s2 := by rw [hs2, hs1]; rfl
  have ea : f_X10_absorb 0 (nI hd) (0 : Int64) (gKh (aesE rk R)) (gKl (aesE rk R)) (0 : Int64) re26 = some (s1.1, s1.2) := by rw [hs1]; exact p_X10_absorb (gKh (aesE rk R)) (gKl (aesE rk R)) (0, 0) d1 (by omega)
  have eb : f_X10_absorb 0 (nI tx) s1.1 (gKh (aesE rk R)) (gKl (aesE rk R)) s1.2 (zrow 0 tx bo22 re26) = some (s2.1, s2.2) := by rw [hs2]; exact p_X10_absorb (gKh (aesE rk R)) (gKl (aesE rk R)) s1 d2 (by omega)
  obtain ⟨g, hg⟩ : ∃ g, g = gm (gKh (aesE rk R)) (gKl (aesE rk R)) (s2.1 ^^^ ((8 : Int64) * (nI hd).toInt64)) (s2.2 ^^^ ((8 : Int64) * (nI tx).toInt64)) := ⟨_, rfl⟩
  have eT : gTh (aesE rk R) (fun t => m (p + 12 + t)) hd (fun t => gTx (aesE rk R) m p hd tx (p + 12 + hd + t)) tx = g := by unfold gTh; rw [eg, hg]
  have em : f_X10_multiply (s2.1 ^^^ ((8 : Int64) * (nI hd).toInt64)) (s2.2 ^^^ ((8 : Int64) * (nI tx).toInt64)) s2.1 (gKh (aesE rk R)) (gKl (aesE rk R)) s2.2 = some (g.1, g.2) := by rw [hg]; exact p_X10_multiply _ _ _ _ _ _
  obtain ⟨b38, o39, e3, g3⟩ := p_X10_counterBlock (p := p) (bx := bx) (mb := mb) (m := m) 1 b2 o2 (fun t ht => hm _ (by omega)) u (by omega) hbx hk h1 hR
  obtain ⟨T, hT⟩ : ∃ T, T = aesE rk R (gcB (fun t => m (p + t)) 1) := ⟨_, rfl⟩
  rw [← hT] at g3
  rw [zjE, l_gal168 _ _ _ (by omega), ← hbo22, zjE, l_gal198 _ _ _ (by omega), ← hre26, ea]
  simp only [zbE]
  rw [zjE, l_gal240 _ _ _ (by omega), eb]
  simp only [zbE]
  rw [em]
  simp only [zbE]
  rw [e3]
  simp only [zbE]
  rw [eh0 _ _ g3, zbE, znE, eh8 _ _ g3, zbE, znE, zjE]
  rw [if_neg (by decide)]
  dsimp only
  rw [zjE]
  refine l_gal428 b38 o39 _ (fun q => ∃ r5 : L4, ∃ bl' bo' mb' o' re', q = some (nI (12 + hd + tx + 16), r5.1, r5.2.1, r5.2.2.1, r5.2.2.2, bl', bo', mb', o', re') ∧ eqN 512 mb' (gSeal (aesE rk R) m p hd tx)) hm u (by omega) (by omega) hbx hk h1 hR ?_
  intro b49 bu50 o51 hbu
  rw [zjE, l_gal495 _ _ _ _ (by omega), if_neg (by decide), zA]
  refine ⟨(g.1, gKh (aesE rk R), gKl (aesE rk R), g.2), _, _, _, _, _, rfl, ?_⟩
  have et : ∀ f, zrow (p + 12 + hd + tx + 8) 8 (lB (g.2 ^^^ L8 (fun t => T (8 + t)))) (zrow (p + 12 + hd + tx) 8 (lB (g.1 ^^^ L8 T)) f) = zrow (p + 12 + hd + tx) 16 (gTagS (aesE rk R) m p hd tx) f := by
    intro f
    rw [zrow_congr (a := p + 12 + hd + tx) (n := 8) (k := gTagS (aesE rk R) m p hd tx) (fun j hj => by unfold gTagS gTag; rw [eT, ← hT, if_pos hj])]
    refine zrow_glue (fun j hj => ?_)
    unfold gTagS gTag
    rw [eT, ← hT, if_neg (by omega), show 8 + j - 8 = j by omega]
  rw [et]
  exact eqN_row hbu (fun _ _ => rfl)
set_option maxHeartbeats 8000000 in
theorem p_X10_galoisO {p hd tx R : Nat} {bx rk mb m : Rw} (q1 q2 q3 q4 : Int64) (bl bo o re : Rw) (hm : eqN 512 mb m) (u : isU8 m 512) (hp : p + 12 + hd + tx + 16 ≤ 512) (hbx : ∀ k, k < 256 → bx k = tb_BOX.getD k 0) (hk : isU8 rk (16 * (R + 1))) (h1 : 1 ≤ R) (hR : R ≤ 14) :
    ∃ r : Int32, ∃ r5 : L4, ∃ bl' bo' mb' o' re', f_X10_galois 0 (nI p) (nI (28 + hd + tx)) (nI hd) q1 q2 q3 q4 (nI R) bl bo bx mb o re rk = some (r, r5.1, r5.2.1, r5.2.2.1, r5.2.2.2, bl', bo', mb', o', re') ∧ ((r = nI (12 + hd + tx) ∧ gOk (aesE rk R) m p hd tx ∧ eqN 512 mb' (gTx (aesE rk R) m p hd tx)) ∨ (r = -9 ∧ ¬ gOk (aesE rk R) m p hd tx ∧ mb' = mb)) := by
  have uE : ∀ s, isU8 s 16 → isU8 (aesE rk R s) 16 := fun s hs => aesE_u hs h1 hk
  have uz : isU8 (fun _ => (0 : Int32)) 16 := fun _ _ => (by decide : (0 : Int32) &&& 255 = 0)
  have zz : ∀ f, eq16 (zrow 0 16 (fun _ => 0) f) (fun _ => 0) := fun f => eq16_row
  obtain ⟨b1, o1, e1, g1⟩ := p_X10_seal (bx := bx) (b := zrow 0 16 (fun _ => 0) bl) o (eq16_u (zz bl) uz) hbx hk h1 hR
  have g1' : eq16 b1 (aesE rk R (fun _ => 0)) := eq16_t g1 (aesE_c (zz bl) h1 (fun _ _ => rfl))
  have eh0 : ∀ (b s : Rw), eq16 b s → f_X10_half (0 : Int32) b = some (L8 s) := fun b s hb => (p_X10_half (a := 0) b (by omega)).trans (congrArg some (L8_c (fun j hj => by rw [Nat.zero_add]; exact hb j (by omega))))
  have eh8 : ∀ (b s : Rw), eq16 b s → f_X10_half (8 : Int32) b = some (L8 (fun t => s (8 + t))) := fun b s hb => (p_X10_half (a := 8) b (by omega)).trans (congrArg some (L8_c (fun j hj => hb _ (by omega))))
  have ka : f_X10_half (0 : Int32) b1 = some (gKh (aesE rk R)) := eh0 _ _ g1'
  have kb : f_X10_half (8 : Int32) b1 = some (gKl (aesE rk R)) := eh8 _ _ g1'
  unfold f_X10_galois
  rw [zjE, if_pos rfl]
  have etx : nI (28 + hd + tx) - (28 : Int32) - nI hd = nI tx := by rw [zS (by omega), zSn (by omega), show 28 + hd + tx - 28 - hd = tx by omega]
  rw [etx]
  dsimp only
  rw [zA, nI_add, znE, zjE, l_gal35, e1]
  simp only [zbE]
  rw [ka, zbE, kb, zbE, zjE]
  refine l_gal82 0 b1 o1 re _ (fun q => ∃ r : Int32, ∃ r5 : L4, ∃ bl' bo' mb' o' re', q = some (r, r5.1, r5.2.1, r5.2.2.1, r5.2.2.2, bl', bo', mb', o', re') ∧ ((r = nI (12 + hd + tx) ∧ gOk (aesE rk R) m p hd tx ∧ eqN 512 mb' (gTx (aesE rk R) m p hd tx)) ∨ (r = -9 ∧ ¬ gOk (aesE rk R) m p hd tx ∧ mb' = mb))) hm u (by omega) (by omega) hbx hk h1 hR ?_
  intro b2 o2 re2 hre
  obtain ⟨re26, hre26⟩ : ∃ q, q = zrow 0 hd (fun t => mb (p + 12 + t)) re2 := ⟨_, rfl⟩
  obtain ⟨bo22, hbo22⟩ : ∃ q, q = zrow 0 tx re2 bo := ⟨_, rfl⟩
  have d1 : eqN hd re26 (fun t => m (p + 12 + t)) := fun t ht => by rw [hre26, zrow_0 ht]; exact hm _ (by omega)
  have d2 : eqN tx (zrow 0 tx bo22 re26) (fun t => m (p + 12 + hd + t)) := fun t ht => by
      rw [hbo22]
      exact by
        rw [zrow_0 ht, zrow_0 ht, hre t ht, if_pos rfl]
  obtain ⟨s1, hs1⟩ : ∃ s, s = ga (gKh (aesE rk R)) (gKl (aesE rk R)) (fun t => m (p + 12 + t)) hd (0, 0) := ⟨_, rfl⟩
  obtain ⟨s2, hs2⟩ : ∃ s, s = ga (gKh (aesE rk R)) (gKl (aesE rk R)) (fun t => m (p + 12 + hd + t)) tx s1 := ⟨_, rfl⟩
  have eg : gSum (aesE rk R) (fun t => m (p + 12 + t)) hd (fun t => m (p + 12 + hd + t)) tx = s2 := by rw [hs2, hs1]; rfl
  have ea : f_X10_absorb 0 (nI hd) (0 : Int64) (gKh (aesE rk R)) (gKl (aesE rk R)) (0 : Int64) re26 = some (s1.1, s1.2) := by rw [hs1]; exact p_X10_absorb (gKh (aesE rk R)) (gKl (aesE rk R)) (0, 0) d1 (by omega)
  have eb : f_X10_absorb 0 (nI tx) s1.1 (gKh (aesE rk R)) (gKl (aesE rk R)) s1.2 (zrow 0 tx bo22 re26) = some (s2.1, s2.2) := by rw [hs2]; exact p_X10_absorb (gKh (aesE rk R)) (gKl (aesE rk R)) s1 d2 (by omega)
  obtain ⟨g, hg⟩ : ∃ g, g = gm (gKh (aesE rk R)) (gKl (aesE rk R)) (s2.1 ^^^ ((8 : Int64) * (nI hd).toInt64)) (s2.2 ^^^ ((8 : Int64) * (nI tx).toInt64)) := ⟨_, rfl⟩
  have eT : gTh (aesE rk R) (fun t => m (p + 12 + t)) hd (fun t => m (p + 12 + hd + t)) tx = g := by unfold gTh; rw [eg, hg]
  have em : f_X10_multiply (s2.1 ^^^ ((8 : Int64) * (nI hd).toInt64)) (s2.2 ^^^ ((8 : Int64) * (nI tx).toInt64)) s2.1 (gKh (aesE rk R)) (gKl (aesE rk R)) s2.2 = some (g.1, g.2) := by rw [hg]; exact p_X10_multiply _ _ _ _ _ _
  obtain ⟨b38, o39, e3, g3⟩ := p_X10_counterBlock (p := p) (bx := bx) (mb := mb) (m := m) 1 b2 o2 (fun t ht => hm _ (by omega)) u (by omega) hbx hk h1 hR
  obtain ⟨T, hT⟩ : ∃ T, T = aesE rk R (gcB (fun t => m (p + t)) 1) := ⟨_, rfl⟩
  rw [← hT] at g3
  rw [zjE, l_gal168 _ _ _ (by omega), ← hbo22, zjE, l_gal198 _ _ _ (by omega), ← hre26, ea]
  simp only [zbE]
  rw [zjE, l_gal240 _ _ _ (by omega), eb]
  simp only [zbE]
  rw [em]
  simp only [zbE]
  rw [e3]
  simp only [zbE]
  rw [eh0 _ _ g3, zbE, znE, eh8 _ _ g3, zbE, znE, zjE]
  rw [if_pos trivial, zjE, l_gal346 _ _ (by omega)]
  have tag : ∀ j, gTagO (aesE rk R) m p hd tx j = if j < 8 then lB (g.1 ^^^ L8 T) j else lB (g.2 ^^^ L8 (fun t => T (8 + t))) (j - 8) := fun j => by
    unfold gTagO gTag
    rw [eT, ← hT]
  have uq : ∀ j, j < 16 → m (p + 12 + hd + tx + j) &&& 255 = m (p + 12 + hd + tx + j) := fun j hj => u _ (by omega)
  have em0 : L8 (fun t => mb (p + 12 + hd + tx + t)) = L8 (fun t => m (p + 12 + hd + tx + t)) := L8_c (fun j hj => hm _ (by omega))
  have em8 : L8 (fun t => mb (p + 12 + hd + tx + 8 + t)) = L8 (fun t => m (p + 12 + hd + tx + (8 + t))) := L8_c (fun j hj => by rw [Nat.add_assoc (p + 12 + hd + tx) 8 j]; exact hm _ (by omega))
  rw [em0, em8]
  have iff0 : L8 (fun t => m (p + 12 + hd + tx + t)) = g.1 ^^^ L8 T ↔ ∀ j, j < 8 → gTagO (aesE rk R) m p hd tx j = m (p + 12 + hd + tx + j) := by
    constructor
    · intro q j hj
      rw [tag, if_pos hj, ← q, lB_L8 (fun i hi => uq i (by omega)) hj]
    · intro q
      rw [← L8_lB (g.1 ^^^ L8 T)]
      exact L8_c (fun j hj => by rw [← q j hj, tag, if_pos hj])
  have iff8 : L8 (fun t => m (p + 12 + hd + tx + (8 + t))) = g.2 ^^^ L8 (fun t => T (8 + t)) ↔ ∀ j, j < 8 → gTagO (aesE rk R) m p hd tx (8 + j) = m (p + 12 + hd + tx + (8 + j)) := by
    constructor
    · intro q j hj
      rw [tag, if_neg (by omega), show 8 + j - 8 = j by omega, ← q, lB_L8 (fun i hi => uq (8 + i) (by omega)) hj]
    · intro q
      rw [← L8_lB (g.2 ^^^ L8 (fun t => T (8 + t)))]
      exact L8_c (fun j hj => by rw [← q j hj, tag, if_neg (by omega), show 8 + j - 8 = j by omega])
  by_cases c0 : L8 (fun t => m (p + 12 + hd + tx + t)) = g.1 ^^^ L8 T
  · rw [if_pos ((lg0 _ _).mpr c0)]
    by_cases c8 : L8 (fun t => m (p + 12 + hd + tx + (8 + t))) = g.2 ^^^ L8 (fun t => T (8 + t))
    · rw [if_pos ((lg0 _ _).mpr c8)]
      have ok : gOk (aesE rk R) m p hd tx := by
        intro t ht
        by_cases h8 : t < 8
        · exact iff0.mp c0 t h8
        · have := iff8.mp c8 (t - 8) (by omega)
          rw [show 8 + (t - 8) = t by omega] at this
          exact this
      dsimp only
      rw [zjE]
      refine l_gal428 b38 o39 _ (fun q => ∃ r : Int32, ∃ r5 : L4, ∃ bl' bo' mb' o' re', q = some (r, r5.1, r5.2.1, r5.2.2.1, r5.2.2.2, bl', bo', mb', o', re') ∧ ((r = nI (12 + hd + tx) ∧ gOk (aesE rk R) m p hd tx ∧ eqN 512 mb' (gTx (aesE rk R) m p hd tx)) ∨ (r = -9 ∧ ¬ gOk (aesE rk R) m p hd tx ∧ mb' = mb))) hm u (by omega) (by omega) hbx hk h1 hR ?_
      intro b49 bu50 o51 hbu
      rw [zjE, l_gal495o, if_pos trivial, zS (by omega), show 28 + hd + tx - 16 = 12 + hd + tx by omega]
      exact ⟨_, (g.1, gKh (aesE rk R), gKl (aesE rk R), g.2), _, _, _, _, _, rfl, Or.inl ⟨rfl, ok, hbu⟩⟩
    · rw [if_neg (fun q => c8 ((lg0 _ _).mp q))]
      exact ⟨_, (g.1, gKh (aesE rk R), gKl (aesE rk R), g.2), _, _, _, _, _, rfl, Or.inr ⟨rfl, fun ok => c8 (iff8.mpr (fun j hj => ok _ (by omega))), rfl⟩⟩
  · rw [if_neg (fun q => c0 ((lg0 _ _).mp q))]
    exact ⟨_, (g.1, gKh (aesE rk R), gKl (aesE rk R), g.2), _, _, _, _, _, rfl, Or.inr ⟨rfl, fun ok => c0 (iff0.mpr (fun j hj => ok j (by omega))), rfl⟩⟩
