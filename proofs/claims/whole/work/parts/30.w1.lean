/-! the method hash -/
theorem l_swap2k {r : Nat} (h sH : Rw) (K : Rw → Rw → Option _) (hr : r ≤ 2) : zl (b_X10_swap_2 (nI r) 1 K) zF ((0 : Int32), h, sH) = K h (zrow (8 * r) 8 h sH) := by
  refine zl_row (F := b_X10_swap_2 (nI r) 1 K) (fun i f => (nI i, h, f)) (fun f => K h f) (8 * r) 8 h sH (by omega) ?_ ?_
  · intro self f
    simp only [b_X10_swap_2]
    exact if_pos (by decide)
  · intro self i f hi _
    simp (disch := omega) only [b_X10_swap_2, zle1, if_neg, f10, ite_false, zM, nI_add, zCl, zki, zki2, znE, zA, zlt2]
theorem l_swap2l {r : Nat} (h sH : Rw) (K : Rw → Rw → Option _) (hr : r ≤ 2) : zl (b_X10_swap_2 (nI r) 0 K) zF ((0 : Int32), h, sH) = K (zrow 0 8 (fun j => sH (8 * r + j)) h) sH := by
  refine zl_row (F := b_X10_swap_2 (nI r) 0 K) (fun i f => (nI i, f, sH)) (fun f => K f sH) 0 8 (fun j => sH (8 * r + j)) h (by omega) ?_ ?_
  · intro self f
    simp only [b_X10_swap_2]
    exact if_pos (by decide)
  · intro self i f hi _
    simp (disch := omega) only [b_X10_swap_2, zle1, if_neg, z00, ite_true, zM, nI_add, zCl, zki, zki2, znE, zA, Nat.zero_add, zlt2]
theorem l_swap57k {r : Nat} (m sBl : Rw) (K : Rw → Rw → Option _) (hr : r ≤ 2) : zl (b_X10_swap_57 (nI r) 1 K) zF ((0 : Int32), m, sBl) = K m (zrow (64 * r) 64 m sBl) := by
  refine zl_row (F := b_X10_swap_57 (nI r) 1 K) (fun i f => (nI i, m, f)) (fun f => K m f) (64 * r) 64 m sBl (by omega) ?_ ?_
  · intro self f
    simp only [b_X10_swap_57]
    exact if_pos (by decide)
  · intro self i f hi _
    simp (disch := omega) only [b_X10_swap_57, zle1, if_neg, f10, ite_false, zM, nI_add, zCl, zki, zki2, znE, zA, zlt2]
theorem l_swap57l {r : Nat} (m sBl : Rw) (K : Rw → Rw → Option _) (hr : r ≤ 2) : zl (b_X10_swap_57 (nI r) 0 K) zF ((0 : Int32), m, sBl) = K (zrow 0 64 (fun j => sBl (64 * r + j)) m) sBl := by
  refine zl_row (F := b_X10_swap_57 (nI r) 0 K) (fun i f => (nI i, f, sBl)) (fun f => K f sBl) 0 64 (fun j => sBl (64 * r + j)) m (by omega) ?_ ?_
  · intro self f
    simp only [b_X10_swap_57]
    exact if_pos (by decide)
  · intro self i f hi _
    simp (disch := omega) only [b_X10_swap_57, zle1, if_neg, z00, ite_true, zM, nI_add, zCl, zki, zki2, znE, zA, Nat.zero_add, zlt2]
theorem p_swap1 {r : Nat} (tot : Int64) (h m sBl sH : Rw) (taken : Nat → Int64) (hr : r ≤ 2) : f_X10_swap (nI r) 1 tot h m sBl sH taken = some (tot, h, m, zrow (64 * r) 64 m sBl, zrow (8 * r) 8 h sH, vp_updL taken r tot) := by
  unfold f_X10_swap
  rw [zjE, l_swap2k _ _ _ hr, zjE, l_swap57k _ _ _ hr, if_neg (by decide), zk_T (nI_in (by omega) (by omega)), znE, nI_clamp (by omega)]
theorem p_swap0 {r : Nat} (tot : Int64) (h m sBl sH : Rw) (taken : Nat → Int64) (hr : r ≤ 2) : f_X10_swap (nI r) 0 tot h m sBl sH taken = some (taken r, zrow 0 8 (fun j => sH (8 * r + j)) h, zrow 0 64 (fun j => sBl (64 * r + j)) m, sBl, sH, taken) := by
  unfold f_X10_swap
  rw [zjE, l_swap2l _ _ _ hr, zjE, l_swap57l _ _ _ hr, if_pos rfl, zk_T (nI_in (by omega) (by omega)), znE, nI_clamp (by omega)]
theorem p_inBufX (p q : Int32) : f_X9_inBuffer p q = some (if (0 ≤ p ∧ p ≤ 512) ∧ 0 ≤ q ∧ q ≤ 512 - p then 1 else 0) := by
  unfold f_X9_inBuffer
  by_cases h1 : p < 0
  · rw [if_pos h1, if_neg (fun z => absurd h1 (Int32.not_lt.mpr z.1.1))]
  · rw [if_neg h1]
    by_cases h2 : 512 < p
    · rw [if_pos h2, if_neg (fun z => absurd h2 (Int32.not_lt.mpr z.1.2))]
    · rw [if_neg h2]
      by_cases h3 : q < 0
      · rw [if_pos h3, if_neg (fun z => absurd h3 (Int32.not_lt.mpr z.2.1))]
      · rw [if_neg h3]
        by_cases h4 : 512 - p < q
        · rw [if_pos h4, if_neg (fun z => absurd h4 (Int32.not_lt.mpr z.2.2))]
        · rw [if_neg h4, if_pos ⟨⟨Int32.not_lt.mp h1, Int32.not_lt.mp h2⟩, Int32.not_lt.mp h3, Int32.not_lt.mp h4⟩]
theorem shCS_rows {b sc su sc' su' : Rw} {n : Nat} {fl : Int32} (h : shCS b n fl sc su) (h1 : ∀ j, j < 8 → su' j = su j) (h2 : ∀ i, i < 16 → sc' i = sc i) : shCS b n fl sc' su' := by
  obtain ⟨q1, q2, q3, g, q4⟩ := h
  exact ⟨q1, fun j hj => (h1 j hj).trans (q2 j hj), fun i hi => (h2 i (by omega)).trans (q3 i hi), g, (h2 _ (by omega)).trans q4⟩
theorem Rst1_mono {B B' : Nat} {fl tot : Int32} {sc su sH sBl : Rw} {tk : Int64} (h : Rst1 B fl tot sc su tk sH sBl) (hB : B ≤ B') : Rst1 B' fl tot sc su tk sH sBl := by
  obtain ⟨b, n, h1, h2⟩ := h
  exact ⟨b, n, Nat.le_trans h1 hB, h2⟩
theorem Rst_mono {B B' st : Nat} {sb fl tot : Int32} {sc su sH sBl : Rw} {taken : Nat → Int64} (h : Rst B st sb fl tot sc su taken sH sBl) (hB : B ≤ B') : Rst B' st sb fl tot sc su taken sH sBl :=
  ⟨h.1, fun r hr => (h.2 r hr).imp (fun q => ⟨q.1, q.2.1, Rst1_mono q.2.2 hB⟩) (fun q => q)⟩
/-- the stream of the one who is logged in, made anew -/
theorem Rst_new {B st r : Nat} {sb fl tot fl' tot' : Int32} {sc su sc' su' sH sBl : Rw} {taken : Nat → Int64} {tk : Int64} {h m : Rw} (hr : r = 1 ∨ r = 2) (hst : st = 2 + r) (hR : Rst B st sb fl tot sc su taken sH sBl) (hn : Rst1 (B + 512) fl' tot' sc' su' tk h m) : Rst (B + 512) st 1 fl' tot' sc' su' (vp_updL taken r tk) (zrow (8 * r) 8 h sH) (zrow (64 * r) 64 m sBl) := by
  refine ⟨Or.inr ⟨rfl, by omega⟩, fun r2 hr2 => ?_⟩
  by_cases e : r2 = r
  · subst e
    left
    refine ⟨rfl, hst, ?_⟩
    rw [updL_s]
    obtain ⟨b, n, a1, a2, a3, a4, a5, a6⟩ := hn
    refine ⟨b, n, a1, a2, a3, a4, fun j hj => ?_, fun t ht => ?_⟩
    · show zrow (8 * r2) 8 h sH (8 * r2 + j) = _
      rw [zrow_in (by omega) (by omega), show 8 * r2 + j - 8 * r2 = j by omega]
      exact a5 j hj
    · show zrow (64 * r2) 64 m sBl (64 * r2 + t) = _
      rw [zrow_in (by omega) (by omega), show 64 * r2 + t - 64 * r2 = t by omega]
      exact a6 t ht
  · right
    refine ⟨fun q => by omega, ?_⟩
    rw [updL_n _ _ e]
    rcases hR.2 r2 hr2 with q | q
    · omega
    · exact q.2
theorem lg_lN {n : Nat} (h : n < 2 ^ 60) : 0 ≤ lg_cmp (lN n) 0 := by
  rw [lgn]
  unfold btl
  rw [wb_tb, BitVec.getLsbD_ofNat, Nat.testBit_lt_two_pow (Nat.lt_of_lt_of_le h (Nat.pow_le_pow_right (by decide) (by decide))), Bool.and_false]
theorem l_hash192 {a : Nat} (dg mb : Rw) (K : Rw → Option _) (h : a + 32 ≤ 512) : zl (b_X10_hash_192 (nI a) dg K) zF ((0 : Int32), mb) = K (zrow a 32 dg mb) := by
  refine zl_cpy (F := b_X10_hash_192 (nI a) dg K) a 32 dg mb K (by omega) ?_ ?_
  · intro self f
    simp only [b_X10_hash_192]
    exact if_pos (by decide)
  · intro self i f hi
    simp (disch := omega) only [b_X10_hash_192, zle1, if_neg, nI_add, zCl, zki, zki2, znE, zA, zlt2]
set_option maxHeartbeats 8000000 in
theorem q_hash {B st : Nat} {p1 p2 p3 sb fl1 tot1 fl tot thr : Int32} {mt : Int64} {cb cc sc1 su1 sc su RO ST bx bk mb mc dg h m sBl sH w x : Rw} {taken : Nat → Int64} (hst : st ≤ 5) (ht : Rtb RO ST bx bk) (hb : Rb cb mb) (hc : Rcn cc mc) (hS : Rst B st sb fl tot sc su taken sH sBl) (hB : B < 2 ^ 27) :
    ∃ (r sb' fl1' tot1' fl' tot' : Int32) (mt' : Int64) (cb' cc' sc1' su1' sc' su' mb' mc' dg' h' m' sBl' sH' : Rw) (taken' : Nat → Int64) (w' x' : Rw), f_X9_hash p1 p2 p3 (nI st) sb cb cc fl1 tot1 sc1 su1 fl tot sc su = some (r, sb', cb', cc', fl1', tot1', sc1', su1', fl', tot', sc', su') ∧ f_X10_hash p1 p2 p3 (nI st) thr mt RO ST mb mc dg h m sBl sH taken w x = some (r, 0, mt', mb', mc', dg', h', m', sBl', sH', taken', w', x') ∧ Rcn cc' mc' ∧ Rb cb' mb' ∧ Rst (B + 512) st sb' fl' tot' sc' su' taken' sH' sBl' := by
  have flat : ∀ a : Int32, f_X9_hashAnswer p1 p2 p3 (nI st) sb cb fl1 tot1 sc1 su1 fl tot sc su = some (a, sb, cb, fl1, tot1, sc1, su1, fl, tot, sc, su) → (∀ mc', f_X10_answer a mc = some (a, mc') → f_X10_hash p1 p2 p3 (nI st) thr mt RO ST mb mc dg h m sBl sH taken w x = some (a, 0, mt, mb, mc', dg, h, m, sBl, sH, taken, w, x)) → ∃ (r sb' fl1' tot1' fl' tot' : Int32) (mt' : Int64) (cb' cc' sc1' su1' sc' su' mb' mc' dg' h' m' sBl' sH' : Rw) (taken' : Nat → Int64) (w' x' : Rw), f_X9_hash p1 p2 p3 (nI st) sb cb cc fl1 tot1 sc1 su1 fl tot sc su = some (r, sb', cb', cc', fl1', tot1', sc1', su1', fl', tot', sc', su') ∧ f_X10_hash p1 p2 p3 (nI st) thr mt RO ST mb mc dg h m sBl sH taken w x = some (r, 0, mt', mb', mc', dg', h', m', sBl', sH', taken', w', x') ∧ Rcn cc' mc' ∧ Rb cb' mb' ∧ Rst (B + 512) st sb' fl' tot' sc' su' taken' sH' sBl' := by
    intro a h1 h2
    obtain ⟨cc', mc', e3, e4, g3⟩ := p_counted a hc
    refine ⟨a, sb, fl1, tot1, fl, tot, mt, cb, cc', sc1, su1, sc, su, mb, mc', dg, h, m, sBl, sH, taken, w, x, ?_, h2 mc' e4, g3, hb, Rst_mono hS (by omega)⟩
    simp only [f_X9_hash, h1, zbE, e3]
  by_cases hin : st = 3 ∨ st = 4
  · have hin' : nI st = 3 ∨ nI st = 4 := (in34 hst).mpr hin
    obtain ⟨r, hr, hsr⟩ : ∃ r, (r = 1 ∨ r = 2) ∧ st = 2 + r := ⟨st - 2, by omega, by omega⟩
    have hro : f_X10_role (nI st) = some (nI r) := by rw [(st_role hin).2, show st - 2 = r by omega]
    have zt : ∀ {α : Type} {d : Decidable (¬ (nI r < 0 ∨ 3 ≤ r))} (x : Option α), @zk α (¬ (nI r < 0 ∨ 3 ≤ r)) d x = x := fun x => zki (by omega) (by omega) x
    have clr : (nI r).toNatClampNeg = r := nI_clamp (by omega)
    by_cases c0 : p1 = 0
    · subst c0
      obtain ⟨cc', mc', e3, e4, g3⟩ := p_counted 0 hc
      obtain ⟨su', eb, gb⟩ := p_X7_begin fl tot su
      obtain ⟨h', es, gs⟩ := p_X10_start ht.2.1 (fun _ => 0) mt h m
      have hn : Rst1 (B + 512) 0 0 sc su' 0 h' m := ⟨fun _ => 0, 0, by omega, shCS_0 _ sc gb, rfl, rfl, fun j hj => gs.2.1 j hj, fun t ht => by omega⟩
      refine ⟨0, 1, fl1, tot1, 0, 0, 0, cb, cc', sc1, su1, sc, su', mb, mc', dg, h', m, _, _, _, w, x, ?_, ?_, g3, hb, Rst_new hr hsr hS hn⟩
      · simp (decide := true) only [f_X9_hash, f_X9_hashAnswer, p_logged, hin', zbE, zjE, ite_true, ite_false, eb, e3]
      · unfold f_X10_hash
        rw [p_isIn, zbE, if_pos hin', if_neg (by decide), zjE, zjE, if_pos rfl]
        dsimp only
        rw [if_neg (by decide), hro, zbE, if_pos rfl, es]
        simp only [zbE]
        rw [p_swap1 _ _ _ _ _ _ (by omega)]
        simp only [zbE]
        rw [e4, zbE]
    · by_cases c1 : p1 = 1
      · subst c1
        by_cases c2 : (0 ≤ p2 ∧ p2 ≤ 512) ∧ 0 ≤ p3 ∧ p3 ≤ 512 - p2
        · obtain ⟨a, ha, rfl⟩ := in_nat (b := 512) (by omega) c2.1.1 c2.1.2
          have c3 : nI a ≤ 512 := c2.1.2
          have c4 := c2.2.2
          rw [zS2 (by omega)] at c4
          obtain ⟨k, hk, rfl⟩ := in_nat (by omega) c2.2.1 c4
          have n3 : ¬ nI k < 0 := nI_pos (by omega)
          have c5 : nI k ≤ 512 - nI a := c2.2.2
          have c6 := c2.1
          have hop : ∀ (b : Option (Int32 × Int32 × Int64 × Rw × Rw × Rw × Rw × Rw × Rw × Rw × (Nat → Int64) × Rw × Rw)), f_X10_hash 1 (nI a) (nI k) (nI st) thr mt RO ST mb mc dg h m sBl sH taken w x = b → f_X10_hash 1 (nI a) (nI k) (nI st) thr mt RO ST mb mc dg h m sBl sH taken w x = b := fun _ q => q
          rcases hS.2 r hr with ⟨s1, s2, s3⟩ | ⟨s1, s2⟩
          · subst s1
            obtain ⟨b, n, a1, a2, a3, a4, a5, a6⟩ := s3
            obtain ⟨cc', mc', e3, e4, g3⟩ := p_counted (nI k) hc
            obtain ⟨b', hb'⟩ : ∃ b' : Rw, b' = fun t => if t < n then b t else mb (a + (t - n)) := ⟨_, rfl⟩
            have bl : ∀ t, t < n → b t = b' t := fun t ht => by rw [hb']; exact (if_pos ht).symm
            have bh : ∀ i, b' (n + i) = mb (a + i) := fun i => by rw [hb']; show (if n + i < n then b (n + i) else mb (a + (n + i - n))) = _; rw [if_neg (by omega), Nat.add_sub_cancel_left]
            obtain ⟨fl', sc', su', et, gt⟩ := p_X7_take (N := 512) (a := a) (n := n) (k := k) (b := b') (ca := cb) tot (shCS_congr bl a2) (fun i hi => by rw [bh i]; exact RB_u hb.1 hb.2 (by omega)) (by omega) (by omega)
            have hms : shMS b' n (taken r) (zrow 0 8 (fun j => sH (8 * r + j)) h) (zrow 0 64 (fun j => sBl (64 * r + j)) m) := shMS_congr bl ⟨a4, fun j hj => by rw [zrow_0 hj]; exact a5 j hj, fun t ht => by rw [zrow_0 (by omega)]; exact a6 t ht⟩
            have em : ∃ (mt' : Int64) (h' m' w' x' : Rw), f_X10_hash 1 (nI a) (nI k) (nI st) thr mt RO ST mb mc dg h m sBl sH taken w x = some (nI k, 0, mt', mb, mc', dg, h', m', zrow (64 * r) 64 m' sBl, zrow (8 * r) 8 h' sH, vp_updL taken r mt', w', x') ∧ shMS b' (n + k) mt' h' m' := by
              unfold f_X10_hash
              rw [p_isIn, zbE, if_pos hin', if_neg (by decide), zjE, zjE, if_neg (by decide), zjE, if_pos rfl, if_neg n3, p_in, zbE, if_pos c6, if_neg (by decide), if_pos c5]
              dsimp only
              rw [if_neg (by decide), hro, zbE, if_neg (by decide), clr, zt, a4, if_pos (lg_lN (by omega)), p_swap0 _ _ _ _ _ _ (by omega)]
              simp only [zbE]
              rw [if_pos trivial, zjE]
              refine zl_say (F := b_X10_hash_147 (nI a) (nI k) RO mb _) ht.1 (fun i => mb (a + i)) k w x (fun o => ∃ (mt' : Int64) (h' m' w' x' : Rw), o = some (nI k, 0, mt', mb, mc', dg, h', m', zrow (64 * r) 64 m' sBl, zrow (8 * r) 8 h' sH, vp_updL taken r mt', w', x') ∧ shMS b' (n + k) mt' h' m') hms (fun i hi => by rw [bh i]; exact hb.2 _ (by omega)) (by omega) (by omega) ?_ ?_
              · intro self h2 m2 t2 w2 x2 g2
                simp only [b_X10_hash_147]
                rw [if_pos (nI_le (Nat.le_refl _) (by omega)), p_swap1 _ _ _ _ _ _ (by omega)]
                simp only [zbE]
                rw [e4, zbE]
                exact ⟨t2, h2, m2, w2, x2, rfl, g2⟩
              · intro self i h2 m2 t2 w2 x2 t3 h3 m3 w3 x3 hi e
                simp only [b_X10_hash_147]
                rw [if_neg (nI_ge hi (by omega)), nI_add, zk_T (nI_in (by omega) (by omega)), nI_clamp (by omega), e]
                simp only [zbE]
                rw [nI_1]
            obtain ⟨mt', h', m', w', x', em, gm⟩ := em
            have hn : Rst1 (B + 512) fl' (tot + nI k) sc' su' mt' h' m' := ⟨b', n + k, by omega, gt, by rw [a3, nI_add], gm.1, gm.2.1, gm.2.2⟩
            refine ⟨nI k, 1, fl1, tot1, fl', tot + nI k, mt', cb, cc', sc1, su1, sc', su', mb, mc', dg, h', m', _, _, _, w', x', ?_, em, g3, hb, Rst_new hr hsr hS hn⟩
            simp (decide := true) only [f_X9_hash, f_X9_hashAnswer, p_logged, p_inBufX, hin', c2, and_self, zbE, zjE, ite_true, ite_false, et, e3]
          · have hsb : sb = 0 := by
              rcases hS.1 with q | ⟨q, _⟩
              · exact q
              · exact absurd ⟨q, hsr⟩ s1
            refine flat (-4) ?_ (fun mc' e => ?_)
            · simp (decide := true) only [f_X9_hashAnswer, p_logged, p_inBufX, hin', c2, hsb, and_self, zbE, zjE, ite_true, ite_false]
            · unfold f_X10_hash
              rw [p_isIn, zbE, if_pos hin', if_neg (by decide), zjE, zjE, if_neg (by decide), zjE, if_pos rfl, if_neg n3, p_in, zbE, if_pos c6, if_neg (by decide), if_pos c5]
              dsimp only
              rw [if_neg (by decide), hro, zbE, if_neg (by decide), clr, zt, s2, if_neg (by decide), e, zbE]
        · refine flat (-2) ?_ (fun mc' e => ?_)
          · simp (decide := true) only [f_X9_hashAnswer, p_logged, p_inBufX, hin', c2, zbE, zjE, ite_true, ite_false]
          · unfold f_X10_hash
            rw [p_isIn, zbE, if_pos hin', if_neg (by decide), zjE, zjE, if_neg (by decide), zjE, if_pos rfl]
            by_cases d1 : p3 < 0
            · rw [if_pos d1, zjE, if_neg (by decide)]
              dsimp only
              rw [if_pos rfl, e, zbE]
            · rw [if_neg d1, p_in, zbE]
              by_cases d2 : 0 ≤ p2 ∧ p2 ≤ 512
              · rw [if_pos d2, if_neg (by decide), if_neg (fun q => c2 ⟨d2, Int32.not_lt.mp d1, q⟩), zjE, if_neg (by decide)]
                dsimp only
                rw [if_pos rfl, e, zbE]
              · rw [if_neg d2, if_pos rfl, zjE, if_neg (by decide)]
                dsimp only
                rw [if_pos rfl, e, zbE]
      · by_cases c2 : p1 = 2
        · subst c2
          by_cases c3 : 0 ≤ p2 ∧ p2 ≤ 480
          · obtain ⟨a, ha, rfl⟩ := in_nat (b := 480) (by omega) c3.1 c3.2
            have c4 : (0 ≤ nI a ∧ nI a ≤ 512) ∧ (0 : Int32) ≤ 32 ∧ 32 ≤ 512 - nI a := ⟨⟨c3.1, nI_le (b := 512) (by omega) (by omega)⟩, by decide, by rw [zS2 (by omega)]; exact nI_le (a := 32) (by omega) (by omega)⟩
            rcases hS.2 r hr with ⟨s1, s2, s3⟩ | ⟨s1, s2⟩
            · subst s1
              obtain ⟨b, n, a1, a2, a3, a4, a5, a6⟩ := s3
              obtain ⟨cc', mc', e3, e4, g3⟩ := p_counted 32 hc
              have hcs : shCS b n fl (zrow 0 16 (fun t => sc (0 + t)) sc1) (zrow 0 8 (fun t => su (0 + t)) su1) := shCS_rows a2 (fun j hj => by rw [zrow_0 hj, Nat.zero_add]) (fun j hj => by rw [zrow_0 hj, Nat.zero_add])
              obtain ⟨sc2, su2, ee⟩ := p_X7_end (N := 512) (a := a) (n := n) cb hcs (by omega) (by omega) (by omega)
              have ecp : f_X7_copyFrom fl1 tot1 sc1 su1 fl tot sc su = some (fl, tot, zrow 0 16 (fun t => sc (0 + t)) sc1, zrow 0 8 (fun t => su (0 + t)) su1) := by
                unfold f_X7_copyFrom
                simp (decide := true) only [zk_c, znE]
                rfl
              have hms : shMS b n (taken r) (zrow 0 8 (fun j => sH (8 * r + j)) h) (zrow 0 64 (fun j => sBl (64 * r + j)) m) := ⟨a4, fun j hj => by rw [zrow_0 hj]; exact a5 j hj, fun t ht => by rw [zrow_0 (by omega)]; exact a6 t ht⟩
              obtain ⟨mt', dg', h', m', w', x', ef, gf⟩ := p_X10_finish ht.1 dg w x hms (by omega)
              have hbb : Rb (zrow a 32 (fun j => sB (shD b n j)) cb) (zrow a 32 dg' mb) := by
                refine ⟨?_, U_row hb.2 (fun j hj => by rw [gf j hj]; exact shD_u b n j)⟩
                intro j hj
                by_cases q : a ≤ j ∧ j < a + 32
                · rw [zrow_in q.1 q.2, zrow_in q.1 q.2, gf _ (by omega)]
                · rw [zrow_out (by omega), zrow_out (by omega)]
                  exact hb.1 j hj
              rw [a3] at ecp
              refine ⟨32, 1, 0, tot, fl, tot, mt', _, cc', sc2, su2, sc, su, _, mc', dg', h', m', sBl, sH, taken, w', x', ?_, ?_, g3, hbb, Rst_mono hS (by omega)⟩
              · simp (decide := true) only [f_X9_hash, f_X9_hashAnswer, p_logged, p_inBufX, hin', c4, and_self, zbE, zjE, ite_true, ite_false, a3, ecp, ee, e3]
              · unfold f_X10_hash
                rw [p_isIn, zbE, if_pos hin', if_neg (by decide), zjE, zjE, if_neg (by decide), zjE, if_neg (by decide), zjE, if_pos rfl, p_in, zbE, if_pos c3, if_neg (by decide)]
                dsimp only
                rw [if_neg (by decide), hro, zbE, if_neg (by decide), clr, zt, a4, if_pos (lg_lN (by omega)), p_swap0 _ _ _ _ _ _ (by omega)]
                simp only [zbE]
                rw [if_neg (by decide), ef]
                simp only [zbE]
                rw [zjE]
                rw [l_hash192 _ _ _ (by omega), e4, zbE]
            · have hsb : sb = 0 := by
                rcases hS.1 with q | ⟨q, _⟩
                · exact q
                · exact absurd ⟨q, hsr⟩ s1
              refine flat (-4) ?_ (fun mc' e => ?_)
              · simp (decide := true) only [f_X9_hashAnswer, p_logged, p_inBufX, hin', c4, hsb, and_self, zbE, zjE, ite_true, ite_false]
              · unfold f_X10_hash
                rw [p_isIn, zbE, if_pos hin', if_neg (by decide), zjE, zjE, if_neg (by decide), zjE, if_neg (by decide), zjE, if_pos rfl, p_in, zbE, if_pos c3, if_neg (by decide)]
                dsimp only
                rw [if_neg (by decide), hro, zbE, if_neg (by decide), clr, zt, s2, if_neg (by decide), e, zbE]
          · have c4 : ¬ ((0 ≤ p2 ∧ p2 ≤ 512) ∧ (0 : Int32) ≤ 32 ∧ 32 ≤ 512 - p2) := by
              rintro ⟨⟨q1, q2⟩, q3, q4⟩
              obtain ⟨a, ha, rfl⟩ := in_nat (b := 512) (by omega) q1 q2
              rw [zS2 (by omega)] at q4
              have := (nI_leI (a := 32) (by omega) (by omega)).mp q4
              exact c3 ⟨q1, nI_le (b := 480) (by omega) (by omega)⟩
            have einb : f_X9_inBuffer p2 32 = some 0 := by rw [p_inBufX, if_neg c4]
            refine flat (-2) ?_ (fun mc' e => ?_)
            · simp (decide := true) only [f_X9_hashAnswer, p_logged, einb, hin', zbE, zjE, ite_true, ite_false]
            · unfold f_X10_hash
              rw [p_isIn, zbE, if_pos hin', if_neg (by decide), zjE, zjE, if_neg (by decide), zjE, if_neg (by decide), zjE, if_pos rfl, p_in, zbE, if_neg c3, if_pos rfl]
              dsimp only
              rw [if_pos rfl, e, zbE]
        · refine flat (-2) ?_ (fun mc' e => ?_)
          · by_cases d1 : p1 < 0
            · simp (decide := true) only [f_X9_hashAnswer, p_logged, hin', d1, zbE, ite_true, ite_false]
            · have d2 : 2 < p1 := by
                apply Int32.not_le.mp
                intro q
                obtain ⟨k, hk, rfl⟩ := in_nat (b := 2) (by omega) (Int32.not_lt.mp d1) q
                rcases (show k = 0 ∨ k = 1 ∨ k = 2 by omega) with rfl | rfl | rfl
                · exact c0 rfl
                · exact c1 rfl
                · exact c2 rfl
              simp (decide := true) only [f_X9_hashAnswer, p_logged, hin', d1, d2, zbE, ite_true, ite_false]
          · unfold f_X10_hash
            rw [p_isIn, zbE, if_pos hin', if_neg (by decide), zjE, zjE, if_neg c0, zjE, if_neg c1, zjE, if_neg c2]
            dsimp only
            rw [if_pos rfl, e, zbE]
  · have hin' : ¬ (nI st = 3 ∨ nI st = 4) := fun q => hin ((in34 hst).mp q)
    refine flat (-1) ?_ (fun mc' e => ?_)
    · simp (decide := true) only [f_X9_hashAnswer, p_logged, hin', zbE, ite_true, ite_false]
    · unfold f_X10_hash
      rw [p_isIn, zbE, if_neg hin', if_pos rfl, e, zbE]
