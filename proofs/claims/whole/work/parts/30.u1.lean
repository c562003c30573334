/-! GCM: what is absorbed -/
theorem p_X10_half {a : Nat} (bl : Rw) (h : a + 8 ≤ 16) : f_X10_half (nI a) bl = some (L8 (fun t => bl (a + t))) := by
  unfold f_X10_half
  rw [zjE]
  refine zl_up (F := b_X10_half_5 (nI a) bl _) (fun i (s : Int64) => (s, nI i)) (fun i s => s = lF (fun t => bl (a + t)) i) 0 8 (0 : Int64) (fun o => o = some (L8 (fun t => bl (a + t)))) (by omega) (by omega) rfl ?_ ?_
  · intro self s hs
    subst hs
    simp only [b_X10_half_5]
    exact if_pos (by decide)
  · intro self i s _ hi hs
    subst hs
    refine ⟨_, rfl, ?_⟩
    simp (disch := omega) only [b_X10_half_5, zle1, if_neg, nI_add, zCl, zki, zki2, znE, zA]
    rfl
/-- eight bytes of d from o on, those from n on taken as 0 -/
def pdR (d : Rw) (n o : Nat) : Rw := fun t => if o + t < n then d (o + t) else 0
theorem pdR_u {d : Rw} {n : Nat} (u : isU8 d n) (o : Nat) : isU8 (pdR d n o) 8 := by
  intro t ht
  unfold pdR
  by_cases h : o + t < n
  · rw [if_pos h]; exact u _ h
  · rw [if_neg h]; rfl
theorem pdR_c {d e : Rw} {n : Nat} (h : eqN n d e) (o t : Nat) : pdR d n o t = pdR e n o t := by
  unfold pdR
  by_cases hc : o + t < n
  · rw [if_pos hc, if_pos hc, h _ hc]
  · rw [if_neg hc, if_neg hc]
theorem sub_le_iff {a b i : Nat} (ha : a < 2 ^ 30) (hb : b < 2 ^ 30) (hi : i < 2 ^ 30) : nI a - nI b ≤ nI i ↔ a ≤ b + i := by
  rw [Int32.le_iff_toInt_le, pk_sub_toInt ha hb, nI_toInt (by omega)]
  omega
set_option maxHeartbeats 4000000 in
theorem p_X2_padded {N a n o : Nat} {p2 : Int32} {c m : Rw} (h : RB N c m) (u : isU8 m N) (ha : a + n ≤ N) (hN : N ≤ 1500) (ho : o ≤ 1500) (hp : ∀ i, i < 8 → (p2 ≤ nI i ↔ n ≤ o + i)) : f_X2_paddedLong N (nI (a + o)) p2 c = some (L8 (pdR (fun t => m (a + t)) n o)) := by
  unfold f_X2_paddedLong
  rw [zjE]
  refine zl_up (F := b_X2_paddedLong_5 N (nI (a + o)) p2 c _) (fun i (s : Int64) => (s, nI i)) (fun i s => s = lF (pdR (fun t => m (a + t)) n o) i) 0 8 (0 : Int64) (fun q => q = some (L8 (pdR (fun t => m (a + t)) n o))) (by omega) (by omega) rfl ?_ ?_
  · intro self s hs
    subst hs
    simp only [b_X2_paddedLong_5]
    exact if_pos (by decide)
  · intro self i s _ hi hs
    subst hs
    refine ⟨_, rfl, ?_⟩
    simp only [b_X2_paddedLong_5]
    rw [if_neg (show ¬ (8 : Int32) ≤ nI i from nI_ge (b := 8) hi (by omega))]
    by_cases hc : n ≤ o + i
    · rw [if_pos ((hp i hi).mpr hc), znE, nI_1]
      have e : pdR (fun t => m (a + t)) n o i = 0 := by unfold pdR; rw [if_neg (by omega)]
      show _ = self ((lF (pdR (fun t => m (a + t)) n o) i <<< ((8 : Int32).toInt64 &&& 63)) ||| (pdR (fun t => m (a + t)) n o i).toInt64, nI (i + 1))
      rw [e]
    · rw [if_neg (fun q => hc ((hp i hi).mp q)), nI_add, zk_T (nI_in (by omega) (by omega)), znE, nI_clamp (by omega), nI_1, RB_u h u (by omega)]
      have e : pdR (fun t => m (a + t)) n o i = m (a + o + i) := by unfold pdR; rw [if_pos (by omega), Nat.add_assoc]
      show _ = self ((lF (pdR (fun t => m (a + t)) n o) i <<< ((8 : Int32).toInt64 &&& 63)) ||| (pdR (fun t => m (a + t)) n o i).toInt64, nI (i + 1))
      rw [e]
def gaS (kh kl : Int64) (d : Rw) (n i : Nat) (s : Int64 × Int64) : Int64 × Int64 := gm kh kl (s.1 ^^^ L8 (pdR d n (16 * i))) (s.2 ^^^ L8 (pdR d n (16 * i + 8)))
def ga (kh kl : Int64) (d : Rw) (n : Nat) (s : Int64 × Int64) : Int64 × Int64 := zis (gaS kh kl d n) s ((n + 15) / 16)
theorem zis_s {σ : Type} (g : Nat → σ → σ) (s : σ) (k : Nat) : zis g s (k + 1) = g k (zis g s k) := rfl
theorem zis_0 {σ : Type} (g : Nat → σ → σ) (s : σ) : zis g s 0 = s := rfl
theorem gaS_c {kh kl : Int64} {d e : Rw} {n i : Nat} {s : Int64 × Int64} (h : eqN n d e) : gaS kh kl d n i s = gaS kh kl e n i s := by
  unfold gaS
  rw [L8_c (fun j _ => pdR_c h _ j), L8_c (fun j _ => pdR_c h _ j)]
theorem ga_c {kh kl : Int64} {d e : Rw} {n : Nat} (s : Int64 × Int64) (h : eqN n d e) : ga kh kl d n s = ga kh kl e n s := by
  have key : ∀ k, zis (gaS kh kl d n) s k = zis (gaS kh kl e n) s k := by
    intro k
    induction k with
    | zero => rw [zis_0, zis_0]
    | succ k ih => rw [zis_s, zis_s, ih, gaS_c h]
  unfold ga
  exact key _
set_option maxHeartbeats 4000000 in
theorem p_X2_absorb {N a n : Nat} {c m : Rw} (kh kl : Int64) (s : Int64 × Int64) (h : RB N c m) (u : isU8 m N) (ha : a + n ≤ N) (hN : N ≤ 1500) : f_X2_absorb N (nI a) (nI n) kh kl s.1 s.2 c = some (ga kh kl (fun t => m (a + t)) n s) := by
  unfold f_X2_absorb
  rw [zjE]
  refine zl_up (F := b_X2_absorb_3 N (nI a) (nI n) kh kl c _) (fun i (s : Int64 × Int64) => (nI (16 * i), s.1, s.2)) (fun i q => q = zis (gaS kh kl (fun t => m (a + t)) n) s i) 0 ((n + 15) / 16) s (fun q => q = some (ga kh kl (fun t => m (a + t)) n s)) (by omega) (by omega) rfl ?_ ?_
  · intro self q hq
    subst hq
    simp only [b_X2_absorb_3]
    rw [if_pos (nI_le (by omega) (by omega))]
    rfl
  · intro self i q _ hi hq
    subst hq
    refine ⟨_, rfl, ?_⟩
    obtain ⟨q, hq⟩ : ∃ q, q = zis (gaS kh kl (fun t => m (a + t)) n) s i := ⟨_, rfl⟩
    show _ = self (nI (16 * (i + 1)), (gaS kh kl (fun t => m (a + t)) n i (zis (gaS kh kl (fun t => m (a + t)) n) s i)).1, (gaS kh kl (fun t => m (a + t)) n i (zis (gaS kh kl (fun t => m (a + t)) n) s i)).2)
    rw [← hq]
    have e1 := p_X2_padded (o := 16 * i) (p2 := nI n - nI (16 * i)) h u ha hN (by omega) (fun j hj => sub_le_iff (by omega) (by omega) (by omega))
    have e2 := p_X2_padded (o := 16 * i + 8) (p2 := nI n - nI (16 * i) - 8) h u ha hN (by omega) (fun j hj => by
      rw [show nI n - nI (16 * i) - 8 = nI n - nI (16 * i + 8) by rw [← nI_add, Int32.sub_sub]; rfl]
      exact sub_le_iff (by omega) (by omega) (by omega))
    simp only [b_X2_absorb_3]
    rw [if_neg (nI_ge (by omega) (by omega)), nI_add, e1, zbE, znE, zA, Nat.add_assoc, e2, zbE, znE, p_X2_multiply, zbE, zA]
    rfl
/-! in the model -/
set_option maxHeartbeats 4000000 in
theorem l_absorb16 {n i : Nat} (re : Rw) (K : Int64 → Int64 → Option _) (hn : n ≤ 600) (hi : 16 * i < n) : zl (b_X10_absorb_16 0 (nI n) re (nI (16 * i)) K) zF ((0 : Int64), (0 : Int64), (0 : Int32)) = K (L8 (pdR re n (16 * i))) (L8 (pdR re n (16 * i + 8))) := by
  refine zl_up (F := b_X10_absorb_16 0 (nI n) re (nI (16 * i)) K) (fun j (s : Int64 × Int64) => (s.1, s.2, nI j)) (fun j s => s.1 = lF (pdR re n (16 * i)) (if j < 8 then j else 8) ∧ s.2 = lF (pdR re n (16 * i + 8)) (j - 8)) 0 16 ((0 : Int64), (0 : Int64)) (fun q => q = K (L8 (pdR re n (16 * i))) (L8 (pdR re n (16 * i + 8)))) (by omega) (by omega) ⟨rfl, rfl⟩ ?_ ?_
  · intro self s hs
    obtain ⟨x, y⟩ := s
    obtain ⟨h1, h2⟩ := hs
    dsimp only at h1 h2
    subst h1 h2
    simp only [b_X10_absorb_16]
    rw [if_pos (by decide)]
    rfl
  · intro self j s _ hj hs
    obtain ⟨x, y⟩ := s
    obtain ⟨h1, h2⟩ := hs
    dsimp only at h1 h2
    have fin : ∀ v : Int32, v = (if 16 * i + j < n then re (16 * i + j) else 0) → ∃ s' : Int64 × Int64, (s'.1 = lF (pdR re n (16 * i)) (if j + 1 < 8 then j + 1 else 8) ∧ s'.2 = lF (pdR re n (16 * i + 8)) (j + 1 - 8)) ∧ (if (8 : Int32) ≤ nI j then zn (((y <<< ((8 : Int32).toInt64 &&& 63)) ||| v.toInt64) : Int64) (fun x_25 => self (x, x_25, (nI j + (1 : Int32)))) else zn (((x <<< ((8 : Int32).toInt64 &&& 63)) ||| v.toInt64) : Int64) (fun x_26 => self (x_26, y, (nI j + (1 : Int32))))) = self (s'.1, s'.2, nI (j + 1)) := by
      intro v hv
      by_cases h8 : j < 8
      · refine ⟨((x <<< ((8 : Int32).toInt64 &&& 63)) ||| v.toInt64, y), ⟨?_, ?_⟩, ?_⟩
        · show (x <<< ((8 : Int32).toInt64 &&& 63)) ||| v.toInt64 = _
          rw [show (if j + 1 < 8 then j + 1 else 8) = j + 1 by (repeat' split) <;> omega, h1, if_pos h8, hv]
          rfl
        · show y = _
          rw [h2, show j - 8 = 0 by omega, show j + 1 - 8 = 0 by omega]
        · rw [if_neg (show ¬ (8 : Int32) ≤ nI j from nI_ge (b := 8) h8 (by omega)), znE, nI_1]
      · refine ⟨(x, (y <<< ((8 : Int32).toInt64 &&& 63)) ||| v.toInt64), ⟨?_, ?_⟩, ?_⟩
        · show x = _
          rw [h1, if_neg h8, if_neg (by omega)]
        · show (y <<< ((8 : Int32).toInt64 &&& 63)) ||| v.toInt64 = _
          rw [show j + 1 - 8 = (j - 8) + 1 by omega, h2, hv]
          show _ = (lF (pdR re n (16 * i + 8)) (j - 8) <<< ((8 : Int32).toInt64 &&& 63)) ||| (pdR re n (16 * i + 8) (j - 8)).toInt64
          unfold pdR
          rw [show 16 * i + 8 + (j - 8) = 16 * i + j by omega]
        · rw [if_pos (show (8 : Int32) ≤ nI j from nI_le (a := 8) (by omega) (by omega)), znE, nI_1]
    simp only [b_X10_absorb_16]
    rw [if_neg (show ¬ (16 : Int32) ≤ nI j from nI_ge (b := 16) hj (by omega)), zjE, show (0 : Int32) + nI (16 * i) = nI (16 * i) from (nI_add 0 _).trans (by rw [Nat.zero_add]), nI_add]
    by_cases hc : 16 * i + j < n
    · rw [if_neg (nI_ge hc (by omega)), zk_T (nI_in (by omega) (by omega)), nI_clamp (by omega)]
      exact fin _ (by rw [if_pos hc])
    · rw [if_pos (nI_le (by omega) (by omega))]
      exact fin _ (by rw [if_neg hc])
set_option maxHeartbeats 4000000 in
theorem p_X10_absorb {n : Nat} {re d : Rw} (kh kl : Int64) (s : Int64 × Int64) (h : eqN n re d) (hn : n ≤ 600) : f_X10_absorb 0 (nI n) s.1 kh kl s.2 re = some (ga kh kl d n s) := by
  rw [← ga_c s h]
  unfold f_X10_absorb
  rw [zjE]
  refine zl_up (F := b_X10_absorb_2 0 (nI n) kh kl re _) (fun i (s : Int64 × Int64) => (nI (16 * i), s.1, s.2)) (fun i q => q = zis (gaS kh kl re n) s i) 0 ((n + 15) / 16) s (fun q => q = some (ga kh kl re n s)) (by omega) (by omega) rfl ?_ ?_
  · intro self q hq
    subst hq
    simp only [b_X10_absorb_2]
    rw [if_pos (nI_le (by omega) (by omega))]
    rfl
  · intro self i q _ hi hq
    subst hq
    refine ⟨_, rfl, ?_⟩
    simp only [b_X10_absorb_2]
    rw [if_neg (nI_ge (by omega) (by omega)), zjE, l_absorb16 _ _ hn (by omega), p_X10_multiply, zbE, zA]
    rfl
/-! rows that are alike -/
theorem b_or0 {x y : Int32} : x ||| y = 0 ↔ x = 0 ∧ y = 0 := by
  constructor
  · intro h
    have hb : ∀ i, i < 32 → bt x i = false ∧ bt y i = false := fun i _ => by
      have := b_or x y i
      rw [h, b_0] at this
      revert this
      cases bt x i <;> cases bt y i <;> simp
    exact ⟨b_ext (fun i hi => by rw [(hb i hi).1, b_0]), b_ext (fun i hi => by rw [(hb i hi).2, b_0])⟩
  · rintro ⟨rfl, rfl⟩
    rfl
theorem b_xor0 {x y : Int32} : x ^^^ y = 0 ↔ x = y := by
  constructor
  · intro h
    refine b_ext (fun i hi => ?_)
    have := b_xor x y i
    rw [h, b_0] at this
    revert this
    cases bt x i <;> cases bt y i <;> simp
  · rintro rfl
    refine b_ext (fun i hi => ?_)
    rw [b_xor, b_0]
    cases bt x i <;> rfl
theorem sB_inj {x y : Int32} (ux : x &&& 255 = x) (uy : y &&& 255 = y) : sB x = sB y ↔ x = y := ⟨fun h => by rw [← ux, ← uy, ← sB_and x, ← sB_and y, h], fun h => by rw [h]⟩
set_option maxHeartbeats 4000000 in
theorem p_X9_alike {N0 N2 p q n : Nat} {c0 c2 m0 m2 : Rw} (h0 : ∀ t, t < n → c0 (p + t) = sB (m0 (p + t))) (h2 : ∀ t, t < n → c2 (q + t) = sB (m2 (q + t))) (u0 : ∀ t, t < n → m0 (p + t) &&& 255 = m0 (p + t)) (u2 : ∀ t, t < n → m2 (q + t) &&& 255 = m2 (q + t)) (hp : p + n ≤ N0) (hq : q + n ≤ N2) (hN : N0 ≤ 1500) (hN2 : N2 ≤ 1500) :
    ∃ r, f_X9_alike N0 N2 (nI p) (nI q) (nI n) c0 c2 = some r ∧ ((r = 1 ∧ ∀ t, t < n → m0 (p + t) = m2 (q + t)) ∨ (r = 0 ∧ ¬ ∀ t, t < n → m0 (p + t) = m2 (q + t))) := by
  unfold f_X9_alike
  rw [zjE]
  refine zl_up (F := b_X9_alike_6 N0 N2 (nI p) (nI q) (nI n) c0 c2 _) (fun i (s : Int32) => (s, nI i)) (fun i s => s = 0 ↔ ∀ t, t < i → m0 (p + t) = m2 (q + t)) 0 n (0 : Int32) (fun o => ∃ r, o = some r ∧ ((r = 1 ∧ ∀ t, t < n → m0 (p + t) = m2 (q + t)) ∨ (r = 0 ∧ ¬ ∀ t, t < n → m0 (p + t) = m2 (q + t)))) (by omega) (by omega) ⟨fun _ t ht => by omega, fun _ => rfl⟩ ?_ ?_
  · intro self s hs
    simp only [b_X9_alike_6]
    rw [if_pos (nI_le (Nat.le_refl _) (by omega))]
    by_cases hc : s = 0
    · rw [if_pos hc]
      exact ⟨_, rfl, Or.inl ⟨rfl, hs.mp hc⟩⟩
    · rw [if_neg hc]
      exact ⟨_, rfl, Or.inr ⟨rfl, fun q => hc (hs.mpr q)⟩⟩
  · intro self i s _ hi hs
    refine ⟨s ||| (c0 (p + i) ^^^ c2 (q + i)), ?_, ?_⟩
    · rw [b_or0, hs, b_xor0, h0 i hi, h2 i hi, sB_inj (u0 i hi) (u2 i hi)]
      constructor
      · rintro ⟨h3, h4⟩ t ht
        by_cases e : t = i
        · rw [e]; exact h4
        · exact h3 t (by omega)
      · intro h3
        exact ⟨fun t ht => h3 t (by omega), h3 i (by omega)⟩
    · simp only [b_X9_alike_6]
      rw [if_neg (nI_ge hi (by omega)), nI_add, nI_add, zk_T (nI_in (by omega) (by omega)), zk_T (nI_in (by omega) (by omega)), znE, nI_clamp (by omega), nI_clamp (by omega), nI_1]
