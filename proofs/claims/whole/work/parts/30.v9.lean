/-! the method derive: the bytes -/
def dvM (b : Nat) (mb : Rw) : Rw := fun t => if t < 4 then wB (nI (b + 1)) t else mb (t - 4)
def dvD (L : Nat) (kk mb : Rw) (m t : Nat) : Int32 := hmac L kk (dvM (t / 32) mb) (4 + m) (t % 32)
theorem dvD_u (L : Nat) (kk mb : Rw) (m t : Nat) : dvD L kk mb m t &&& 255 = dvD L kk mb m t := hmac_u _ _ _ _ _ (Nat.mod_lt _ (by decide))
theorem dvM_u {b m : Nat} {mb : Rw} (u : isU8 mb m) : isU8 (dvM b mb) (4 + m) := by
  intro t ht
  unfold dvM
  by_cases h : t < 4
  · rw [if_pos h]; exact wB_u _ _
  · rw [if_neg h]; exact u _ (by omega)
abbrev DS := Rw × Rw × Int32 × Rw × Rw × Rw × Int32
set_option maxHeartbeats 8000000 in
theorem c_derive {j n m L : Nat} {cb mb kk ln : Rw} {ky : Nat → Rw} (hb : Rb cb mb) (hl : ln j = nI L) (hL : L ≤ 64) (hk : RB L (ky j) kk) (uk : isU8 kk L) (hn : n ≤ 64) (hm : m ≤ 64) (ms sec : Rw) (fl tot : Int32) (inn sc su : Rw) :
    ∃ ms' sec' fl' tot' inn' sc' su', f_X9_deriveBytes j (nI n) (nI m) cb ms sec fl tot inn sc su ln ky = some (ms', sec', fl', tot', inn', sc', su') ∧ ∀ t, t < n → sec' t = sB (dvD L kk mb m t) := by
  unfold f_X9_deriveBytes
  simp (disch := omega) only [zCl, zClk, znE]
  rw [zk_T ⟨by decide, by decide, nI_pos (by omega), by omega, by omega, fun i hi => by rw [Nat.zero_add]; exact RB_fit hb.1 (by omega)⟩, cpE, zjE]
  refine zl_up (F := b_X9_deriveBytes_17 j (nI n) (nI m) ln ky _) (fun q (s : DS) => (nI (32 * q), s)) (fun q s => (∀ t, t < m → s.1 (4 + t) = sB (mb t)) ∧ ∀ t, t < 32 * q → s.2.1 t = sB (dvD L kk mb m t)) 0 ((n + 31) / 32) (zrow 4 m (fun t => cb (0 + t)) ms, sec, fl, inn, sc, su, tot) (fun o => ∃ ms' sec' fl' tot' inn' sc' su', o = some (ms', sec', fl', tot', inn', sc', su') ∧ ∀ t, t < n → sec' t = sB (dvD L kk mb m t)) (by omega) (by omega) ⟨fun t ht => ?_, fun t ht => by omega⟩ ?_ ?_
  · show zrow 4 m (fun t => cb (0 + t)) ms (4 + t) = _
    rw [zrow_in (by omega) (by omega), show 0 + (4 + t - 4) = t by omega]
    exact hb.1 t (by omega)
  · intro self s hs
    obtain ⟨ms, sec, fl, inn, sc, su, tot⟩ := s
    simp only [b_X9_deriveBytes_17]
    rw [if_pos (nI_le (by omega) (by omega))]
    exact ⟨_, _, _, _, _, _, _, rfl, fun t ht => hs.2 t (by omega)⟩
  · intro self q s _ hq hs
    obtain ⟨ms, sec, fl, inn, sc, su, tot⟩ := s
    obtain ⟨h1, h2⟩ := hs
    dsimp only at h1 h2
    have ep : f_X9_putInt 68 (0 : Int32) (nI (q + 1)) ms = some (zrow 0 4 (fun t => sB (wB (nI (q + 1)) t)) ms) := p_X9_putInt (N := 68) (a := 0) _ ms (by omega) (by omega)
    have hd : ∀ i, i < 4 + m → zrow 0 4 (fun t => sB (wB (nI (q + 1)) t)) ms (0 + i) &&& 255 = dvM q mb i := fun i hi => by
      rw [Nat.zero_add]
      unfold dvM
      by_cases h4 : i < 4
      · rw [if_pos h4, zrow_0 h4, sB_and]
        exact wB_u _ _
      · rw [if_neg h4, zrow_out (by omega), show i = 4 + (i - 4) by omega, h1 _ (by omega), sB_and, show 4 + (i - 4) - 4 = i - 4 by omega]
        exact hb.2 _ (by omega)
    obtain ⟨inn', sc', su', em⟩ := p_X7_mac (N1 := 64) (N3 := 68) (N6 := 80) (len := L) (a := 0) (n := 4 + m) (to := 32 * q) (kk := kk) (d := dvM q mb) (ca1 := ky j) (ca3 := zrow 0 4 (fun t => sB (wB (nI (q + 1)) t)) ms) fl tot inn sc su sec (fun t ht => RB_u hk uk ht) hd hL hL (by omega) (by omega) (by omega) (by omega) (by omega)
    have em' : f_X7_mac_1PK 68 80 j (nI L) (0 : Int32) (nI (4 + m)) (nI (32 * q)) fl tot inn sc su (zrow 0 4 (fun t => sB (wB (nI (q + 1)) t)) ms) sec ky = some (0, 96, inn', sc', su', zrow (32 * q) 32 (fun t => sB (hmac L kk (dvM q mb) (4 + m) t)) sec) := em
    refine ⟨(zrow 0 4 (fun t => sB (wB (nI (q + 1)) t)) ms, zrow (32 * q) 32 (fun t => sB (hmac L kk (dvM q mb) (4 + m) t)) sec, 0, inn', sc', su', 96), ⟨fun t ht => ?_, fun t ht => ?_⟩, ?_⟩
    · show zrow 0 4 (fun t => sB (wB (nI (q + 1)) t)) ms (4 + t) = _
      rw [zrow_out (by omega)]
      exact h1 t ht
    · show zrow (32 * q) 32 (fun t => sB (hmac L kk (dvM q mb) (4 + m) t)) sec t = _
      by_cases hc : t < 32 * q
      · rw [zrow_out (by omega)]
        exact h2 t hc
      · rw [zrow_in (by omega) (by omega)]
        unfold dvD
        rw [show t / 32 = q by omega, show t % 32 = t - 32 * q by omega]
    · simp only [b_X9_deriveBytes_17]
      rw [if_neg (nI_ge (by omega) (by omega)), zkn (by decide) (by decide), zDv (by omega) (by decide) (by decide), show 32 * q / 32 = q by omega, nI_1, ep, zbE, hl, zA2, em']
      simp only [zbE]
      rw [zA]
      rfl
theorem zd4 : ∀ k, k < 4 → (3 : Int32) - nI k = nI (3 - k) ∧ ((3 : Int32) - nI k) + (-1) = (3 : Int32) - nI (k + 1) ∧ ¬ (3 : Int32) - nI k < 0 := by decide +kernel
abbrev SS := Rw × Rw × Int64 × Rw × Rw
set_option maxHeartbeats 4000000 in
theorem l_derive235 {RO : Rw} (hR : ∀ j, j < 64 → RO j = tb_CONSTANTS.getD j 0) {b : Rw} {q n : Nat} (K : Rw → Rw → Int64 → Rw → Rw → Option _) (P : Option _ → Prop) {i : Nat} (hq : q = i / 32) (hi : i < 64) (hn : n < 2 ^ 30) (hb : ∀ t, t < 4 → b (n + t) = wB (nI (q + 1)) t) {h m : Rw} {tot : Int64} (w x : Rw) (hS : shMS b n tot h m)
    (hK : ∀ h m tot w x, shMS b (n + 4) tot h m → P (K h m tot w x)) : P (zl (b_X10_derive_235 RO (nI i) K) zF ((3 : Int32), h, m, tot, w, x)) := by
  refine zl_up (F := b_X10_derive_235 RO (nI i) K) (fun k (s : SS) => ((3 : Int32) - nI k, s)) (fun k s => shMS b (n + k) s.2.2.1 s.1 s.2.1) 0 4 (h, m, tot, w, x) P (by omega) (by omega) hS ?_ ?_
  · intro self s hs
    obtain ⟨h, m, tot, w, x⟩ := s
    simp only [b_X10_derive_235]
    rw [if_pos (by decide)]
    exact hK _ _ _ _ _ hs
  · intro self k s _ hk hs
    obtain ⟨h, m, tot, w, x⟩ := s
    have hs' : shMS b (n + k) tot h m := hs
    obtain ⟨d1, d2, d3⟩ := zd4 k hk
    obtain ⟨tot', h', m', w', x', e, g⟩ := p_X10_say hR w x (nI (q + 1) >>> (nI (8 * (3 - k)) &&& 31)) hs' (by rw [hb k hk]; unfold wB; rw [show 8 * (3 - k) = 24 - 8 * k by omega]) (by omega)
    refine ⟨(h', m', tot', w', x'), g, ?_⟩
    simp only [b_X10_derive_235]
    rw [if_neg d3, zkn (by decide) (by decide), zDv (by omega) (by decide) (by decide), ← hq, nI_1, d2, d1, zM, e]
    simp only [zbE]
theorem l_derive266 {RO : Rw} (hR : ∀ j, j < 64 → RO j = tb_CONSTANTS.getD j 0) {b mb : Rw} {k n : Nat} (K : Rw → Rw → Int64 → Rw → Rw → Option _) (P : Option _ → Prop) (hk : k ≤ 64) (hn : n < 2 ^ 30) (hb : ∀ t, t < k → mb t &&& 255 = b (n + t)) {h m : Rw} {tot : Int64} (w x : Rw) (hS : shMS b n tot h m)
    (hK : ∀ h m tot w x, shMS b (n + k) tot h m → P (K h m tot w x)) : P (zl (b_X10_derive_266 (nI k) RO mb K) zF ((0 : Int32), h, m, tot, w, x)) := by
  refine zl_say (F := b_X10_derive_266 (nI k) RO mb K) hR mb k w x P hS hb (by omega) (by omega) ?_ ?_
  · intro self h m t w x hs
    simp only [b_X10_derive_266]
    rw [if_pos (nI_le (Nat.le_refl _) (by omega))]
    exact hK _ _ _ _ _ hs
  · intro self i h m t w x t' h' m' w' x' hi e
    simp only [b_X10_derive_266]
    rw [if_neg (nI_ge hi (by omega)), zk_T (nI_in (by omega) (by omega)), nI_clamp (by omega), e]
    simp only [zbE]
    rw [nI_1]
abbrev DM := Rw × Rw × Rw × Rw × Rw × Rw × Int32 × Int64 × Rw × Rw
set_option maxHeartbeats 8000000 in
theorem l_derive208 {RO ST : Rw} (hR : ∀ j, j < 64 → RO j = tb_CONSTANTS.getD j 0) (hST : ∀ j, j < 8 → ST j = tb_BEGINNING.getD j 0) {s f n m L : Nat} {mb len keys : Rw} (hs : s < 16) (hf : f < 16) (hsf : s ≠ f) (hn : n ≤ 64) (hm : m ≤ 64) (ub : isU8 mb m) (hl : len f = nI L) (hL : L ≤ 64) (uk : isU8 (fun i => keys (64 * f + i)) L)
    (K : Rw → Rw → Rw → Rw → Rw → Rw → Int32 → Int64 → Rw → Rw → Option _) (P : Option _ → Prop) (dg h inn msg sec : Rw) (scs : Int32) (tot : Int64) (w x : Rw)
    (hK : ∀ dg h inn msg sec scs tot w x, P (K dg h inn (zrow (64 * s) n (dvD L (fun i => keys (64 * f + i)) mb m) keys) msg sec scs tot w x)) : P (zl (b_X10_derive_208 (nI s) (nI f) (nI n) (nI m) RO ST mb len K) zF ((0 : Int32), dg, h, inn, keys, msg, sec, scs, tot, w, x)) := by
  obtain ⟨kk, hkk⟩ : ∃ q : Rw, q = fun i => keys (64 * f + i) := ⟨_, rfl⟩
  rw [← hkk] at uk hK
  refine zl_up (F := b_X10_derive_208 (nI s) (nI f) (nI n) (nI m) RO ST mb len K) (fun i (z : DM) => (nI i, z)) (fun i z => z.2.2.2.1 = zrow (64 * s) i (dvD L kk mb m) keys ∧ (¬ i % 32 = 0 → ∀ t, t < 32 → z.1 t = hmac L kk (dvM (i / 32) mb) (4 + m) t)) 0 n (dg, h, inn, keys, msg, sec, scs, tot, w, x) P (by omega) (by omega) ⟨zrow_n0.symm, fun q => absurd rfl q⟩ ?_ ?_
  · intro self z hz
    obtain ⟨dg, h, inn, ks, msg, sec, scs, tot, w, x⟩ := z
    obtain ⟨h1, _⟩ := hz
    dsimp only at h1
    subst h1
    simp only [b_X10_derive_208]
    rw [if_pos (nI_le (Nat.le_refl _) (by omega))]
    exact hK _ _ _ _ _ _ _ _ _
  · intro self i z _ hi hz
    obtain ⟨dg, h, inn, ks, msg, sec, scs, tot, w, x⟩ := z
    obtain ⟨h1, h2⟩ := hz
    dsimp only at h1 h2
    have hmod : nI i - nI i / (32 : Int32) * (32 : Int32) = nI (i % 32) := nI_mod (n := 32) (by omega) (by omega) (by omega)
    have fin : ∀ (dg h inn msg sec : Rw) (scs : Int32) (tot : Int64) (w x : Rw), (∀ t, t < 32 → dg t = hmac L kk (dvM (i / 32) mb) (4 + m) t) → ∃ z' : DM, (z'.2.2.2.1 = zrow (64 * s) (i + 1) (dvD L kk mb m) keys ∧ (¬ (i + 1) % 32 = 0 → ∀ t, t < 32 → z'.1 t = hmac L kk (dvM ((i + 1) / 32) mb) (4 + m) t)) ∧ zk (¬ (32 : Int32) = 0) (zk (¬ (nI (i % 32) < 0 ∨ 32 ≤ (nI (i % 32)).toNatClampNeg)) (zk (¬ ((((64 : Int32) * nI s) + nI i) < 0 ∨ 1024 ≤ (((64 : Int32) * nI s) + nI i).toNatClampNeg)) (zn ((upd ks (((64 : Int32) * nI s) + nI i).toNatClampNeg (dg (nI (i % 32)).toNatClampNeg)) : Nat → Int32) (fun c_keys_83 => self ((nI i + (1 : Int32)), dg, h, inn, c_keys_83, msg, sec, scs, tot, w, x))))) = self (nI (i + 1), z') := by
      intro dg h inn msg sec scs tot w x hdg
      refine ⟨(dg, h, inn, upd ks (64 * s + i) (dg (i % 32)), msg, sec, scs, tot, w, x), ⟨?_, fun hc => ?_⟩, ?_⟩
      · show upd ks (64 * s + i) (dg (i % 32)) = _
        rw [hdg _ (by omega), h1]
        exact zrow_s (64 * s) i (dvD L kk mb m) keys
      · rw [show (i + 1) / 32 = i / 32 by omega]
        exact hdg
      · rw [zkn (by decide) (by decide)]
        simp (disch := omega) only [zM, nI_add, zA, zCl, zki, zki2, znE, zlt2]
    simp only [b_X10_derive_208]
    rw [if_neg (nI_ge hi (by omega)), hmod, zkn (by decide) (by decide), zjE]
    by_cases hz : i % 32 = 0
    · have es := p_X10_secretOf (s := f) (len := L) scs ks len sec hf hl hL
      have hsec : ∀ t, t < L → zrow 0 L (fun i => ks (64 * f + i)) sec t = kk t := fun t ht => by
        rw [zrow_0 ht, h1, zrow_out (by omega), hkk]
      obtain ⟨t1, h1', m1, w1, x1, e1, g1⟩ := p_X10_beginMac hR hST (kk := kk) hsec uk hL (dvM (i / 32) mb) tot h msg w x
      rw [if_pos (by rw [hz]; rfl), es]
      simp only [zbE]
      rw [e1]
      simp only [zbE]
      rw [zjE]
      refine l_derive235 hR (q := i / 32) _ (fun o => ∃ z' : DM, (z'.2.2.2.1 = zrow (64 * s) (i + 1) (dvD L kk mb m) keys ∧ (¬ (i + 1) % 32 = 0 → ∀ t, t < 32 → z'.1 t = hmac L kk (dvM ((i + 1) / 32) mb) (4 + m) t)) ∧ o = self (nI (i + 1), z')) rfl (by omega) (by omega) (fun t ht => by rw [hmI_hi]; unfold dvM; rw [if_pos ht]) w1 x1 g1 ?_
      intro h2' m2 t2 w2 x2 g2
      rw [zjE]
      refine l_derive266 hR _ (fun o => ∃ z' : DM, (z'.2.2.2.1 = zrow (64 * s) (i + 1) (dvD L kk mb m) keys ∧ (¬ (i + 1) % 32 = 0 → ∀ t, t < 32 → z'.1 t = hmac L kk (dvM ((i + 1) / 32) mb) (4 + m) t)) ∧ o = self (nI (i + 1), z')) hm (by omega) (fun t ht => by rw [Nat.add_assoc, hmI_hi]; unfold dvM; rw [if_neg (by omega), show 4 + t - 4 = t by omega]; exact ub t ht) w2 x2 g2 ?_
      intro h3 m3 t3 w3 x3 g3
      obtain ⟨t4, dg4, h4, in4, m4, w4, x4, e4, g4⟩ := p_X10_endMac hR hST (kk := kk) (n := 4 + m) (D := dvM (i / 32) mb) hsec uk hL (by rw [← Nat.add_assoc]; exact g3) (by omega) dg inn w3 x3
      rw [e4]
      simp only [zbE]
      exact fin _ _ _ _ _ _ _ _ _ g4
    · rw [if_neg (show ¬ nI (i % 32) = 0 from fun q => hz ((nI_eq (b := 0) (by omega) (by omega)).mp q))]
      exact fin _ _ _ _ _ _ _ _ _ (h2 hz)
