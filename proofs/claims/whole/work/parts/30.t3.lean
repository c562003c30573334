/-! modes: a counter of sixteen bytes -/
def vN (x : Int32) : Nat := x.toBitVec.toNat
theorem vN_nI {k : Nat} (h : k < 256) : vN (nI k) = k := pk_tn (by omega)
theorem vN_u {x : Int32} (h : x &&& 255 = x) : vN x < 256 ∧ x = nI (vN x) := by
  obtain ⟨k, hk, rfl⟩ := uNat h
  rw [vN_nI hk]
  exact ⟨hk, rfl⟩
/-- what is carried behind j bytes -/
def cr (s : Nat → Nat) (q : Nat) : Nat → Nat
  | 0 => q
  | j + 1 => (cr s q j + s (15 - j)) / 256
def ctb (s : Nat → Nat) (q i : Nat) : Nat := (cr s q (15 - i) + s i) % 256
theorem ctb_lt (s : Nat → Nat) (q i : Nat) : ctb s q i < 256 := Nat.mod_lt _ (by decide)
theorem cr_c {s t : Nat → Nat} (q : Nat) : ∀ j, j ≤ 16 → (∀ i, i < 16 → s i = t i) → cr s q j = cr t q j
  | 0, _, _ => rfl
  | j + 1, hj, h => by
    show (cr s q j + s (15 - j)) / 256 = (cr t q j + t (15 - j)) / 256
    rw [cr_c q j (by omega) h, h _ (by omega)]
theorem ctb_c {s t : Nat → Nat} (q : Nat) (h : ∀ i, i < 16 → s i = t i) {i : Nat} (hi : i < 16) : ctb s q i = ctb t q i := by
  unfold ctb
  rw [cr_c q _ (by omega) h, h i hi]
theorem cr_add (s : Nat → Nat) (q : Nat) : ∀ j, j ≤ 16 → cr s (q + 1) j = cr s q j + cr (ctb s q) 1 j ∧ cr (ctb s q) 1 j ≤ 1
  | 0, _ => ⟨rfl, Nat.le_refl _⟩
  | j + 1, hj => by
    obtain ⟨h1, h2⟩ := cr_add s q j (by omega)
    have e : ctb s q (15 - j) = (cr s q j + s (15 - j)) % 256 := by
      unfold ctb
      rw [show 15 - (15 - j) = j by omega]
    show (cr s (q + 1) j + s (15 - j)) / 256 = (cr s q j + s (15 - j)) / 256 + (cr (ctb s q) 1 j + ctb s q (15 - j)) / 256 ∧ (cr (ctb s q) 1 j + ctb s q (15 - j)) / 256 ≤ 1
    rw [h1, e]
    omega
theorem ctb_next (s : Nat → Nat) (q : Nat) {i : Nat} (hi : i < 16) : ctb (ctb s q) 1 i = ctb s (q + 1) i := by
  obtain ⟨h1, h2⟩ := cr_add s q (15 - i) (by omega)
  show (cr (ctb s q) 1 (15 - i) + ctb s q i) % 256 = (cr s (q + 1) (15 - i) + s i) % 256
  rw [h1]
  show (cr (ctb s q) 1 (15 - i) + (cr s q (15 - i) + s i) % 256) % 256 = _
  omega
theorem ctb_0 {s : Nat → Nat} (h : ∀ i, i < 16 → s i < 256) : ∀ i, i < 16 → ctb s 0 i = s i := by
  have h0 : ∀ j, j ≤ 16 → cr s 0 j = 0 := by
    intro j
    induction j with
    | zero => intro _; rfl
    | succ j ih =>
      intro hj
      show (cr s 0 j + s (15 - j)) / 256 = 0
      rw [ih (by omega)]
      have := h (15 - j) (by omega)
      omega
  intro i hi
  unfold ctb
  rw [h0 _ (by omega)]
  have := h i hi
  omega
theorem cr_le (s : Nat → Nat) (q : Nat) (hs : ∀ i, i < 16 → s i < 256) : ∀ j, j ≤ 16 → cr s q j ≤ q + 1
  | 0, _ => Nat.le_succ _
  | j + 1, hj => by
    have h1 := cr_le s q hs j (by omega)
    have h2 := hs (15 - j) (by omega)
    show (cr s q j + s (15 - j)) / 256 ≤ q + 1
    omega
theorem zd16 : ∀ k, k < 16 → (15 : Int32) - nI k = nI (15 - k) ∧ ((15 : Int32) - nI k) + (-1) = (15 : Int32) - nI (k + 1) ∧ ¬ (15 : Int32) - nI k < 0 := by decide +kernel
set_option maxHeartbeats 4000000 in
theorem l_count20 {a q : Nat} {bu m : Nat → Int32} (bl : Nat → Int32) (K : (Nat → Int32) → Option (Int32 × (Nat → Int32) × (Nat → Int32) × (Nat → Int32))) (P : Option (Int32 × (Nat → Int32) × (Nat → Int32) × (Nat → Int32)) → Prop) (hq : q ≤ 1000) (hm : eqN 512 bu m) (u : isU8 m 512) (ha : a + 16 ≤ 512)
    (hK : ∀ b', eq16 b' (fun i => nI (ctb (fun i => vN (m (a + i))) q i)) → P (K b')) : P (zl (b_X10_count_20 (nI a) bu K) zF (nI q, (15 : Int32), bl)) := by
  have hs : ∀ i, i < 16 → vN (m (a + i)) < 256 := fun i hi => (vN_u (u _ (by omega))).1
  refine zl_up (F := b_X10_count_20 (nI a) bu K) (fun j (s : Nat → Int32) => (nI (cr (fun i => vN (m (a + i))) q j), (15 : Int32) - nI j, s)) (fun j s => ∀ i, i < 16 → 15 - i < j → s i = nI (ctb (fun i => vN (m (a + i))) q i)) 0 16 bl P (by omega) (by omega) (fun i _ hi => by omega) ?_ ?_
  · intro self s h
    simp only [b_X10_count_20]
    rw [if_pos (by decide)]
    exact hK s (fun i hi => h i hi (by omega))
  · intro self j s _ hj h
    obtain ⟨d1, d2, d3⟩ := zd16 j hj
    have hc := cr_le (fun i => vN (m (a + i))) q hs j (by omega)
    have hv := hs (15 - j) (by omega)
    have eb : bu (a + (15 - j)) = nI (vN (m (a + (15 - j)))) := (hm _ (by omega)).trans (vN_u (u _ (by omega))).2
    refine ⟨upd s (15 - j) (nI (ctb (fun i => vN (m (a + i))) q (15 - j))), fun i hi h2 => ?_, ?_⟩
    · by_cases e : i = 15 - j
      · subst e
        exact upd_s _ _ _
      · rw [upd_n _ _ e]
        exact h i hi (by omega)
    · simp only [b_X10_count_20, znE]
      rw [if_neg d3, d2, d1, nI_add, zk_T (nI_in (by omega) (by omega)), zk_T (nI_in (by omega) (by omega)), nI_clamp (by omega), nI_clamp (by omega), eb, nI_add, nI255]
      rw [show nI (cr (fun i => vN (m (a + i))) q j + vN (m (a + (15 - j)))) >>> ((8 : Int32) &&& 31) = nI ((cr (fun i => vN (m (a + i))) q j + vN (m (a + (15 - j)))) / 256) from pk_shrN (by omega) _ 8 (by decide)]
      have e2 : ctb (fun i => vN (m (a + i))) q (15 - j) = (cr (fun i => vN (m (a + i))) q j + vN (m (a + (15 - j)))) % 256 := by
        unfold ctb
        rw [show 15 - (15 - j) = j by omega]
      rw [e2]
      rfl
/-- in the class: one more -/
theorem cr_1 (s : Nat → Nat) (hs : ∀ i, i < 16 → s i < 256) : ∀ j, j ≤ 16 → cr s 1 j ≤ 1
  | 0, _ => Nat.le_refl _
  | j + 1, hj => by
    have h1 := cr_1 s hs j (by omega)
    have h2 := hs (15 - j) (by omega)
    show (cr s 1 j + s (15 - j)) / 256 ≤ 1
    omega
theorem cr_1z (s : Nat → Nat) (hs : ∀ i, i < 16 → s i < 256) {j : Nat} (h : cr s 1 j = 0) : ∀ k, j + k ≤ 16 → cr s 1 (j + k) = 0
  | 0, _ => h
  | k + 1, hk => by
    have h1 := cr_1z s hs h k (by omega)
    have h2 := hs (15 - (j + k)) (by omega)
    show (cr s 1 (j + k) + s (15 - (j + k))) / 256 = 0
    rw [h1]
    omega
theorem sB_n0 : ∀ k, k < 256 → (sB (nI k) = 0 ↔ k = 0) := by decide +kernel
theorem sB_inc : ∀ k, k < 256 → (sB (nI k) + 1).toInt8.toInt32 = sB (nI ((k + 1) % 256)) := by decide +kernel
/-- a loop that counts up, or ends before -/
theorem zl_upE {σ τ ρ : Type} {F : (τ → Option ρ) → τ → Option ρ} (e : Nat → σ → τ) (I : Nat → σ → Prop) (a n : Nat) (s0 : σ) (P : Option ρ → Prop) (hn : n ≤ a + 1500) (ha : a ≤ n) (h0 : I a s0)
    (hx : ∀ self s, I n s → P (F self (e n s)))
    (hs : ∀ self i s, a ≤ i → i < n → I i s → (∃ s', I (i + 1) s' ∧ F self (e i s) = self (e (i + 1) s')) ∨ P (F self (e i s))) : P (zl F zF (e a s0)) := by
  have key : ∀ (k i : Nat) (s : σ), a ≤ i → i + k = n → I i s → ∀ m, k < m → P (zl F m (e i s)) := by
    intro k
    induction k with
    | zero =>
      intro i s hai hi hI m hm
      obtain ⟨q, rfl⟩ : ∃ q, m = q + 1 := ⟨m - 1, by omega⟩
      have : i = n := by omega
      subst this
      exact hx _ _ hI
    | succ k ih =>
      intro i s hai hi hI m hm
      obtain ⟨q, rfl⟩ : ∃ q, m = q + 1 := ⟨m - 1, by omega⟩
      rcases hs (zl F q) i s hai (by omega) hI with ⟨s', h1, h2⟩ | h
      · show P (F (zl F q) (e i s))
        rw [h2]
        exact ih (i + 1) s' (by omega) (by omega) h1 q (by omega)
      · exact h
  exact key (n - a) a s0 (Nat.le_refl _) (by omega) h0 zF (by have := zF_big; omega)
set_option maxHeartbeats 4000000 in
theorem p_X4_countUp {bl b : Nat → Int32} (h : RB 16 bl b) (u : isU8 b 16) : ∃ bl', f_X4_countUp bl = some bl' ∧ RB 16 bl' (fun i => nI (ctb (fun i => vN (b i)) 1 i)) := by
  have hs : ∀ i, i < 16 → vN (b i) < 256 := fun i hi => (vN_u (u i hi)).1
  have hb : ∀ i, i < 16 → bl i = sB (nI (vN (b i))) := fun i hi => by
    rw [← (vN_u (u i hi)).2]
    exact h i hi
  have fin : ∀ (j : Nat) (s : Nat → Int32), j ≤ 16 → cr (fun i => vN (b i)) 1 j = 0 → (∀ i, i < 16 → s i = if 15 - i < j then sB (nI (ctb (fun i => vN (b i)) 1 i)) else bl i) → RB 16 s (fun i => nI (ctb (fun i => vN (b i)) 1 i)) := by
    intro j s hj hc hh i hi
    rw [hh i hi]
    by_cases e : 15 - i < j
    · rw [if_pos e]
    · rw [if_neg e, hb i hi]
      have : cr (fun i => vN (b i)) 1 (15 - i) = 0 := by
        have := cr_1z _ hs hc (15 - i - j) (by omega)
        rw [show j + (15 - i - j) = 15 - i by omega] at this
        exact this
      have h2 := hs i hi
      show sB (nI (vN (b i))) = sB (nI ((cr (fun i => vN (b i)) 1 (15 - i) + vN (b i)) % 256))
      rw [this, Nat.zero_add, Nat.mod_eq_of_lt h2]
  unfold f_X4_countUp
  rw [zjE]
  refine zl_upE (F := b_X4_countUp_5 _) (fun j (s : Nat → Int32) => (nI (cr (fun i => vN (b i)) 1 j), (15 : Int32) - nI j, s)) (fun j s => ∀ x, x < 16 → s x = if 15 - x < j then sB (nI (ctb (fun i => vN (b i)) 1 x)) else bl x) 0 16 bl (fun o => ∃ bl', o = some bl' ∧ RB 16 bl' (fun i => nI (ctb (fun i => vN (b i)) 1 i))) (by omega) (by omega) (fun x hx => by rw [if_neg (by omega)]) ?_ ?_
  · intro self s h4
    simp only [b_X4_countUp_5]
    rw [if_pos (by decide)]
    refine ⟨_, rfl, fun i hi => ?_⟩
    have := h4 i hi
    rw [if_pos (by omega)] at this
    exact this
  · intro self j s _ hj h4
    obtain ⟨d1, d2, d3⟩ := zd16 j hj
    have hc1 := cr_1 _ hs j (by omega)
    rcases (show cr (fun i => vN (b i)) 1 j = 0 ∨ cr (fun i => vN (b i)) 1 j = 1 by omega) with hc | hc
    · right
      simp only [b_X4_countUp_5]
      rw [if_neg d3, hc, if_pos (show nI 0 = 0 from rfl)]
      exact ⟨_, rfl, fin j s (by omega) hc h4⟩
    · left
      obtain ⟨v, hv⟩ : ∃ v, v = vN (b (15 - j)) := ⟨_, rfl⟩
      have hv2 : v < 256 := by rw [hv]; exact hs (15 - j) (by omega)
      have es : s (15 - j) = sB (nI v) := by rw [h4 _ (by omega), if_neg (by omega), hb _ (by omega), hv]
      have e2 : ctb (fun i => vN (b i)) 1 (15 - j) = (v + 1) % 256 := by
        show (cr (fun i => vN (b i)) 1 (15 - (15 - j)) + vN (b (15 - j))) % 256 = _
        rw [show 15 - (15 - j) = j by omega, hc, hv, Nat.add_comm]
      have e3 : cr (fun i => vN (b i)) 1 (j + 1) = (v + 1) / 256 := by
        show (cr (fun i => vN (b i)) 1 j + vN (b (15 - j))) / 256 = _
        rw [hc, hv, Nat.add_comm]
      refine ⟨upd s (15 - j) (sB (nI ((v + 1) % 256))), fun x hx => ?_, ?_⟩
      · by_cases e : x = 15 - j
        · subst e
          rw [upd_s, if_pos (by omega), e2]
        · rw [upd_n _ _ e, h4 x hx]
          by_cases q : 15 - x < j
          · rw [if_pos q, if_pos (by omega)]
          · rw [if_neg q, if_neg (by omega)]
      · simp only [b_X4_countUp_5, znE]
        rw [if_neg d3, hc, if_neg (show ¬ nI 1 = 0 by decide), d2, d1, zk_T (nI_in (by omega) (by omega)), zk_T (nI_in (by omega) (by omega)), zk_T (nI_in (by omega) (by omega)), nI_clamp (by omega), es, show vp_nar .byte ((sB (nI v) + 1).toInt8.toInt32) = sB (nI ((v + 1) % 256)) from (pk_vb _).trans (sB_inc v hv2), upd_s, e3]
        by_cases hz : (v + 1) % 256 = 0
        · rw [if_pos ((sB_n0 _ (Nat.mod_lt _ (by decide))).mpr hz), show (v + 1) / 256 = 1 by omega]
          rfl
        · rw [if_neg (fun q => hz ((sB_n0 _ (Nat.mod_lt _ (by decide))).mp q)), show (v + 1) / 256 = 0 by omega]
          rfl
