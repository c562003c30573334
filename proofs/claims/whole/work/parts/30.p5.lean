/-! SHA-256 in the model: a stream of bytes b; n of them were said -/
def shMS (b : Nat → Int32) (n : Nat) (tot : Int64) (h m : Nat → Int32) : Prop :=
  tot = lN n ∧ (∀ j, j < 8 → h j = shN b (n / 64) j) ∧ ∀ t, t < n % 64 → m t = b (64 * (n / 64) + t)
theorem shMS_congr {b c : Nat → Int32} {n : Nat} {tot : Int64} {h m : Nat → Int32} (e : ∀ t, t < n → b t = c t) (hS : shMS b n tot h m) : shMS c n tot h m := by
  obtain ⟨h1, h2, h3⟩ := hS
  refine ⟨h1, fun j hj => (h2 j hj).trans (shN_congr (n / 64) (fun t ht => e t (by omega)) j hj), fun t ht => (h3 t ht).trans (e _ (by omega))⟩
theorem shW4_congr {m k : Nat → Int32} {i : Nat} (h : ∀ t, t < 4 → m (4 * i + t) = k (4 * i + t)) : shW4 m i = shW4 k i := by
  unfold shW4
  have h0 := h 0 (by omega)
  rw [Nat.add_zero] at h0
  rw [h0, h 1 (by omega), h 2 (by omega), h 3 (by omega)]
theorem shCR {RO : Nat → Int32} (hR : ∀ j, j < 64 → RO j = tb_CONSTANTS.getD j 0) {b : Nat → Int32} {k : Nat} {h m w x : Nat → Int32} (hh : ∀ j, j < 8 → h j = shN b k j) (hm : ∀ t, t < 64 → m t = b (64 * k + t)) :
    ∃ h' w' x', f_X10_compress RO h m w x = some (h', w', x') ∧ ∀ j, j < 8 → h' j = shN b (k + 1) j := by
  obtain ⟨h', w', x', e, hc⟩ := p_X10_compress RO h m w x hR
  refine ⟨h', w', x', e, fun j hj => (hc j hj).trans ?_⟩
  exact shC_congr (fun i hi => shW4_congr (fun t ht => hm _ (by omega))) hh j hj
set_option maxHeartbeats 4000000 in
theorem p_X10_say {RO : Nat → Int32} (hR : ∀ j, j < 64 → RO j = tb_CONSTANTS.getD j 0) {b : Nat → Int32} {n : Nat} {tot : Int64} {h m : Nat → Int32} (w x : Nat → Int32) (v : Int32) (hS : shMS b n tot h m) (hv : v &&& 255 = b n) (hn : n < 2 ^ 40) :
    ∃ tot' h' m' w' x', f_X10_say v tot RO h m w x = some (tot', h', m', w', x') ∧ shMS b (n + 1) tot' h' m' := by
  obtain ⟨rfl, h2, h3⟩ := hS
  have er : lN n - lN n / (64 : Int64) * (64 : Int64) = lN (n % 64) := pk_lRem (b := 64) (by omega) (by omega) (by omega)
  have er2 : lN (n + 1) - lN (n + 1) / (64 : Int64) * (64 : Int64) = lN ((n + 1) % 64) := pk_lRem (b := 64) (by omega) (by omega) (by omega)
  unfold f_X10_say
  simp only [znE, lN_1, er, er2, lN_i, lg_cmp_eq]
  rw [zk_T (by decide), zk_T (nI_in (by omega) (by omega)), zk_T (by decide), nI_clamp (by omega), hv]
  obtain ⟨m1, hm1⟩ : ∃ q, q = upd m (n % 64) (b n) := ⟨_, rfl⟩
  rw [← hm1]
  have hm : ∀ t, t < n % 64 + 1 → m1 t = b (64 * (n / 64) + t) := by
    intro t ht
    rw [hm1]
    by_cases e : t = n % 64
    · subst e
      rw [upd_s, show 64 * (n / 64) + n % 64 = n by omega]
    · rw [upd_n _ _ e]
      exact h3 t (by omega)
  by_cases hc : (n + 1) % 64 = 0
  · have e0 : lN ((n + 1) % 64) = 0 := by rw [hc]; rfl
    obtain ⟨h', w', x', e, hh⟩ := shCR hR (w := w) (x := x) h2 (m := m1) (fun t ht => hm t (by omega))
    rw [if_pos e0, e]
    refine ⟨_, _, _, _, _, rfl, rfl, ?_, ?_⟩
    · rw [show (n + 1) / 64 = n / 64 + 1 by omega]
      exact hh
    · intro t ht
      omega
  · have e0 : ¬ lN ((n + 1) % 64) = 0 := fun q => hc ((pk_lEQ (b := 0) (by omega) (by omega)).mp q)
    rw [if_neg e0]
    refine ⟨_, _, _, _, _, rfl, rfl, ?_, ?_⟩
    · rw [show (n + 1) / 64 = n / 64 by omega]
      exact h2
    · intro t ht
      rw [show (n + 1) / 64 = n / 64 by omega]
      exact hm t (by omega)
theorem p_X10_start {ST : Nat → Int32} (hST : ∀ j, j < 8 → ST j = tb_BEGINNING.getD j 0) (b : Nat → Int32) (tot : Int64) (h m : Nat → Int32) : ∃ h', f_X10_start tot ST h = some (0, h') ∧ shMS b 0 0 h' m := by
  unfold f_X10_start
  rw [zjE]
  refine ⟨zrow 0 8 ST h, ?_, rfl, fun j hj => (zrow_0 hj).trans (hST j hj), fun t ht => by omega⟩
  refine zl_row (F := b_X10_start_2 ST (fun q => some ((0 : Int64), q))) (fun i f => (nI i, f)) (fun q => some ((0 : Int64), q)) 0 8 ST h (by omega) ?_ ?_
  · intro self f
    simp only [b_X10_start_2]
    exact if_pos (by decide)
  · intro self i f hi _
    simp (disch := omega) only [b_X10_start_2, zle1, if_neg, zCl, zki, zki2, znE, zA, Nat.zero_add, zlt2]
/-- the padded message -/
def shL (n : Nat) : Nat := 64 * ((n + 8) / 64 + 1)
def shPad (b : Nat → Int32) (n t : Nat) : Int32 := if t < n then b t else if t = n then 128 else if t + 8 < shL n then 0 else nI (8 * n / 256 ^ (shL n - 1 - t) % 256)
/-- byte i of eight words -/
def shDB (h : Nat → Int32) (i : Nat) : Int32 := (h (i / 4) >>> (nI (24 - 8 * (i - i / 4 * 4)) &&& 31)) &&& 255
def shD (b : Nat → Int32) (n : Nat) : Nat → Int32 := shDB (shN (shPad b n) ((n + 8) / 64 + 1))
theorem shDB_congr {h k : Nat → Int32} (e : ∀ j, j < 8 → h j = k j) {i : Nat} (hi : i < 32) : shDB h i = shDB k i := by
  unfold shDB
  rw [e (i / 4) (by omega)]
theorem nI255 (k : Nat) : nI k &&& 255 = nI (k % 256) := by
  have := nx_and k 255
  rw [show k &&& 255 = k % 256 from Nat.and_two_pow_sub_one_eq_mod k 8] at this
  exact this
theorem shLenB {N i : Nat} (hN : N < 2 ^ 63) (hi : i < 8) : (((lN N).toUInt64 >>> (((8 : Int32) * nI i).toInt64.toUInt64 &&& Int64.toUInt64 63)).toInt64).toInt32 &&& 255 = nI (N / 256 ^ i % 256) := by
  rw [zM, wb_shr (by omega) (by omega), lN_i, nI255, Nat.pow_mul]
theorem zdn : ∀ k, k < 8 → (7 : Int32) - nI k = nI (7 - k) ∧ ((7 : Int32) - nI k) + (-1) = (7 : Int32) - nI (k + 1) ∧ ¬ (7 : Int32) - nI k < 0 := by decide +kernel
set_option maxHeartbeats 4000000 in
theorem p_X10_finish {RO : Nat → Int32} (hR : ∀ j, j < 64 → RO j = tb_CONSTANTS.getD j 0) {b : Nat → Int32} {n : Nat} {tot : Int64} {h m : Nat → Int32} (dg w x : Nat → Int32) (hS : shMS b n tot h m) (hn : n < 2 ^ 30) :
    ∃ tot' dg' h' m' w' x', f_X10_finish tot RO dg h m w x = some (tot', dg', h', m', w', x') ∧ ∀ j, j < 32 → dg' j = shD b n j := by
  have e8 : (8 : Int64) * tot = lN (8 * n) := by rw [hS.1]; exact lN_mul 8 n
  have hP : shMS (shPad b n) n tot h m := shMS_congr (fun t ht => (if_pos ht).symm) hS
  unfold f_X10_finish
  rw [znE, e8]
  obtain ⟨t1, h1, m1, w1, x1, e1, hS1⟩ := p_X10_say hR w x 128 hP (by rw [shPad, if_neg (by omega), if_pos rfl]; decide) (by omega)
  simp only [e1, zbE]
  rw [zjE]
  have hL : n + 9 ≤ shL n ∧ shL n < n + 73 := by unfold shL; omega
  have hLm : shL n % 64 = 0 := by unfold shL; omega
  refine zl_up (F := b_X10_finish_16 RO _) (fun (_ : Nat) (s : (Nat → Int32) × (Nat → Int32) × Int64 × (Nat → Int32) × (Nat → Int32)) => s) (fun i s => shMS (shPad b n) i s.2.2.1 s.1 s.2.1) (n + 1) (shL n - 8) (h1, m1, t1, w1, x1) (fun o => ∃ tot' dg' h' m' w' x', o = some (tot', dg', h', m', w', x') ∧ ∀ j, j < 32 → dg' j = shD b n j) (by omega) (by omega) hS1 ?_ ?_
  · intro self s hs
    obtain ⟨h2, m2, t2, w2, x2⟩ := s
    have hs' : shMS (shPad b n) (shL n - 8) t2 h2 m2 := hs
    have et : t2 - t2 / (64 : Int64) * (64 : Int64) = lN ((shL n - 8) % 64) := by rw [hs'.1]; exact pk_lRem (b := 64) (by omega) (by omega) (by omega)
    simp only [b_X10_finish_16, et, lg_cmp_eq]
    rw [zk_T (by decide), if_pos (by rw [show (shL n - 8) % 64 = 56 by omega]; rfl), zjE]
    refine zl_up (F := b_X10_finish_42 RO (lN (8 * n)) _) (fun k (s : (Nat → Int32) × (Nat → Int32) × Int64 × (Nat → Int32) × (Nat → Int32)) => ((7 : Int32) - nI k, s.1, s.2.1, s.2.2.1, s.2.2.2.1, s.2.2.2.2)) (fun k s => shMS (shPad b n) (shL n - 8 + k) s.2.2.1 s.1 s.2.1) 0 8 (h2, m2, t2, w2, x2) (fun o => ∃ tot' dg' h' m' w' x', o = some (tot', dg', h', m', w', x') ∧ ∀ j, j < 32 → dg' j = shD b n j) (by omega) (by omega) hs' ?_ ?_
    · intro self s hs
      obtain ⟨h3, m3, t3, w3, x3⟩ := s
      have hs3 : shMS (shPad b n) (shL n - 8 + 8) t3 h3 m3 := hs
      simp only [b_X10_finish_42]
      rw [if_pos (by decide), zjE]
      have key : zl (b_X10_finish_65 h3 (fun c => some (t3, c, h3, m3, w3, x3))) zF ((0 : Int32), dg) = some (t3, zrow 0 32 (shDB h3) dg, h3, m3, w3, x3) := by
        refine zl_row (F := b_X10_finish_65 h3 (fun c => some (t3, c, h3, m3, w3, x3))) (fun i f => (nI i, f)) (fun c => some (t3, c, h3, m3, w3, x3)) 0 32 (shDB h3) dg (by omega) ?_ ?_
        · intro self f
          simp only [b_X10_finish_65]
          exact if_pos (by decide)
        · intro self i f hi _
          simp (disch := omega) only [b_X10_finish_65, zle1, if_neg, zDv, zCl, zki, zki2, zkn, znE, zA, zM, zM2, zSn, zS2, Nat.zero_add, zlt2]
          rfl
      refine ⟨_, _, _, _, _, _, key, fun j hj => (zrow_0 hj).trans (shDB_congr (fun q hq => ?_) hj)⟩
      have := hs3.2.1 q hq
      rw [this]
      rw [show (shL n - 8 + 8) / 64 = (n + 8) / 64 + 1 by unfold shL; omega]
    · intro self k s _ hk hs
      obtain ⟨h3, m3, t3, w3, x3⟩ := s
      have hs3 : shMS (shPad b n) (shL n - 8 + k) t3 h3 m3 := hs
      obtain ⟨d1, d2, d3⟩ := zdn k hk
      obtain ⟨t4, h4, m4, w4, x4, e4, hS4⟩ := p_X10_say hR w3 x3 ((((lN (8 * n)).toUInt64 >>> (((8 : Int32) * nI (7 - k)).toInt64.toUInt64 &&& Int64.toUInt64 63)).toInt64).toInt32) hs3 (by
        rw [shLenB (by omega) (by omega), shPad, if_neg (by omega), if_neg (by omega), if_neg (by omega), show shL n - 1 - (shL n - 8 + k) = 7 - k by omega]) (by omega)
      refine ⟨(h4, m4, t4, w4, x4), hS4, ?_⟩
      simp only [b_X10_finish_42]
      rw [if_neg d3, d2, d1]
      simp only [e4, zbE]
  · intro self i s hi1 hi2 hs
    obtain ⟨h2, m2, t2, w2, x2⟩ := s
    have hs' : shMS (shPad b n) i t2 h2 m2 := hs
    have et : t2 - t2 / (64 : Int64) * (64 : Int64) = lN (i % 64) := by rw [hs'.1]; exact pk_lRem (b := 64) (by omega) (by omega) (by omega)
    obtain ⟨t4, h4, m4, w4, x4, e4, hS4⟩ := p_X10_say hR w2 x2 0 hs' (by rw [shPad, if_neg (by omega), if_neg (by omega), if_pos (by omega)]; decide) (by omega)
    refine ⟨(h4, m4, t4, w4, x4), hS4, ?_⟩
    simp only [b_X10_finish_16, et, lg_cmp_eq]
    rw [zk_T (by decide), if_neg (fun q => by
      have := (pk_lEQ (a := i % 64) (b := 56) (by omega) (by omega)).mp q
      unfold shL at hL hi2 hLm
      omega)]
    simp only [e4, zbE]
