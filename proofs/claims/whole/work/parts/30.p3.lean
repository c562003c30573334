/-! SHA-256: a stream of bytes; b t is byte number t (as a number from 0 to 255) -/
def shN (b : Nat → Int32) : Nat → (Nat → Int32)
  | 0 => fun j => tb_BEGINNING.getD j 0
  | k + 1 => shC (shW4 (fun t => b (64 * k + t))) (shN b k)
theorem shN_congr {b c : Nat → Int32} : ∀ k : Nat, (∀ t, t < 64 * k → b t = c t) → ∀ j, j < 8 → shN b k j = shN c k j
  | 0, _ => fun _ _ => rfl
  | k + 1, h => by
    refine shC_congr (fun i hi => ?_) (shN_congr k (fun t ht => h t (by omega)))
    simp only [shW4]
    rw [h (64 * k + 4 * i) (by omega), h (64 * k + (4 * i + 1)) (by omega), h (64 * k + (4 * i + 2)) (by omega), h (64 * k + (4 * i + 3)) (by omega)]
/-- a word that is being filled: r bytes were pushed into g -/
def shF (g : Int32) (b : Nat → Int32) : Nat → Int32
  | 0 => g
  | r + 1 => (shF g b r <<< ((8 : Int32) &&& 31)) ||| b r
theorem shF_4 (g : Int32) (b : Nat → Int32) : shF g b 4 = (((b 0 <<< ((24 : Int32) &&& 31)) ||| (b 1 <<< ((16 : Int32) &&& 31))) ||| (b 2 <<< ((8 : Int32) &&& 31))) ||| b 3 := by
  apply b_ext
  intro i hi
  simp only [shF, b_or, b_shl8 _ hi, b_shl16 _ hi, b_shl24 _ hi]
  rcases (show i < 8 ∨ (8 ≤ i ∧ i < 16) ∨ (16 ≤ i ∧ i < 24) ∨ (24 ≤ i ∧ i < 32) by omega) with h | ⟨h1, h2⟩ | ⟨h1, h2⟩ | ⟨h1, h2⟩
  · rw [decide_eq_false (by omega), decide_eq_false (by omega), decide_eq_false (by omega)]
    simp
  · rw [b_shl8 _ (by omega), decide_eq_true (show 8 ≤ i by omega), decide_eq_false (show ¬ 8 ≤ i - 8 by omega), decide_eq_false (show ¬ 16 ≤ i by omega), decide_eq_false (show ¬ 24 ≤ i by omega)]
    simp
  · rw [b_shl8 _ (by omega), b_or, b_shl8 _ (by omega), decide_eq_true (show 8 ≤ i by omega), decide_eq_true (show 8 ≤ i - 8 by omega), decide_eq_false (show ¬ 8 ≤ i - 8 - 8 by omega), decide_eq_true (show 16 ≤ i by omega), decide_eq_false (show ¬ 24 ≤ i by omega), show i - 8 - 8 = i - 16 by omega]
    simp [Bool.or_comm]
  · rw [b_shl8 _ (by omega), b_or, b_shl8 _ (by omega), b_or, b_shl8 _ (by omega), decide_eq_true (show 8 ≤ i by omega), decide_eq_true (show 8 ≤ i - 8 by omega), decide_eq_true (show 8 ≤ i - 8 - 8 by omega), decide_eq_false (show ¬ 8 ≤ i - 8 - 8 - 8 by omega), decide_eq_true (show 16 ≤ i by omega), decide_eq_true (show 24 ≤ i by omega), show i - 8 - 8 - 8 = i - 24 by omega, show i - 8 - 8 = i - 16 by omega]
    simp
/-- the class' stream behind n bytes of b -/
def shCS (b : Nat → Int32) (n : Nat) (fl : Int32) (sc su : Nat → Int32) : Prop :=
  fl = nI (n % 64) ∧ (∀ j, j < 8 → su j = shN b (n / 64) j) ∧ (∀ i, i < n % 64 / 4 → sc i = shW4 (fun t => b (64 * (n / 64) + t)) i) ∧ ∃ g, sc (n % 64 / 4) = shF g (fun t => b (64 * (n / 64) + 4 * (n % 64 / 4) + t)) (n % 64 % 4)
/-- one byte more, in the class -/
def shStep (x : Int32) : Int32 × (Nat → Int32) × (Nat → Int32) → Int32 × (Nat → Int32) × (Nat → Int32)
  | (fl, sc, su) =>
    if fl + 1 = 64 then (0, shE (upd sc (fl >>> ((2 : Int32) &&& 31)).toNatClampNeg ((sc (fl >>> ((2 : Int32) &&& 31)).toNatClampNeg <<< ((8 : Int32) &&& 31)) ||| x)), shA su (shZ (shE (upd sc (fl >>> ((2 : Int32) &&& 31)).toNatClampNeg ((sc (fl >>> ((2 : Int32) &&& 31)).toNatClampNeg <<< ((8 : Int32) &&& 31)) ||| x))) su))
    else (fl + 1, upd sc (fl >>> ((2 : Int32) &&& 31)).toNatClampNeg ((sc (fl >>> ((2 : Int32) &&& 31)).toNatClampNeg <<< ((8 : Int32) &&& 31)) ||| x), su)
theorem shr2 {n : Nat} (h : n < 2 ^ 31) : nI n >>> ((2 : Int32) &&& 31) = nI (n / 4) := pk_shrN h _ 2 (by decide)
theorem shCS_step {b : Nat → Int32} {n : Nat} {fl : Int32} {sc su : Nat → Int32} (h : shCS b n fl sc su) : shCS b (n + 1) (shStep (b n) (fl, sc, su)).1 (shStep (b n) (fl, sc, su)).2.1 (shStep (b n) (fl, sc, su)).2.2 := by
  obtain ⟨h1, h2, h3, g, h4⟩ := h
  subst h1
  have hq : (nI (n % 64) >>> ((2 : Int32) &&& 31)).toNatClampNeg = n % 64 / 4 := by rw [shr2 (by omega), nI_clamp (by omega)]
  have e1 : nI (n % 64) + 1 = nI (n % 64 + 1) := nI_1 _
  unfold shStep
  simp only [hq, e1]
  obtain ⟨sc', hsc⟩ : ∃ q, q = upd sc (n % 64 / 4) ((sc (n % 64 / 4) <<< ((8 : Int32) &&& 31)) ||| b n) := ⟨_, rfl⟩
  have hn : b n = (fun t => b (64 * (n / 64) + 4 * (n % 64 / 4) + t)) (n % 64 % 4) := by
    show b n = b (64 * (n / 64) + 4 * (n % 64 / 4) + n % 64 % 4)
    rw [show 64 * (n / 64) + 4 * (n % 64 / 4) + n % 64 % 4 = n by omega]
  have hs : sc' (n % 64 / 4) = shF g (fun t => b (64 * (n / 64) + 4 * (n % 64 / 4) + t)) (n % 64 % 4 + 1) := by
    rw [hsc, upd_s, h4]
    show _ = (shF g _ (n % 64 % 4) <<< ((8 : Int32) &&& 31)) ||| (fun t => b (64 * (n / 64) + 4 * (n % 64 / 4) + t)) (n % 64 % 4)
    rw [← hn]
  have ho : ∀ i, i < n % 64 / 4 → sc' i = shW4 (fun t => b (64 * (n / 64) + t)) i := fun i hi => by rw [hsc, upd_n _ _ (by omega)]; exact h3 i hi
  have hw : n % 64 % 4 = 3 → ∀ i, i < n % 64 / 4 + 1 → sc' i = shW4 (fun t => b (64 * (n / 64) + t)) i := by
    intro h3' i hi
    by_cases hi2 : i = n % 64 / 4
    · subst hi2
      rw [hs, h3']
      show shF g _ 4 = _
      rw [shF_4]
      simp only [shW4, Nat.add_assoc, Nat.add_zero]
    · exact ho i (by omega)
  rw [← hsc]
  by_cases hc : nI (n % 64 + 1) = 64
  · have hc' : n % 64 = 63 := by
      have := (nI_eq (a := n % 64 + 1) (b := 64) (by omega) (by omega)).mp hc
      omega
    rw [if_pos hc]
    refine ⟨?_, ?_, ?_, ?_⟩
    · show (0 : Int32) = nI ((n + 1) % 64)
      rw [show (n + 1) % 64 = 0 by omega]; rfl
    · show ∀ j, j < 8 → shA su (shZ (shE sc') su) j = shN b ((n + 1) / 64) j
      rw [show (n + 1) / 64 = n / 64 + 1 by omega]
      exact shC_congr (m := sc') (h := su) (fun i hi => hw (by omega) i (by omega)) h2
    · intro i hi
      rw [show (n + 1) % 64 = 0 by omega] at hi
      omega
    · rw [show (n + 1) % 64 = 0 by omega]
      exact ⟨_, rfl⟩
  · have hc' : n % 64 + 1 < 64 := by
      have : n % 64 + 1 ≠ 64 := fun q => hc (by rw [q]; rfl)
      omega
    rw [if_neg hc]
    have ed : (n + 1) / 64 = n / 64 := by omega
    have em : (n + 1) % 64 = n % 64 + 1 := by omega
    refine ⟨by rw [em], by rw [ed]; exact h2, ?_, ?_⟩
    · intro i hi
      rw [em] at hi
      rw [ed]
      by_cases h3' : n % 64 % 4 = 3
      · exact hw h3' i (by omega)
      · exact ho i (by omega)
    · rw [ed, em]
      by_cases h3' : n % 64 % 4 = 3
      · rw [show (n % 64 + 1) % 4 = 0 by omega]
        exact ⟨_, rfl⟩
      · rw [show (n % 64 + 1) / 4 = n % 64 / 4 by omega, show (n % 64 + 1) % 4 = n % 64 % 4 + 1 by omega]
        exact ⟨g, hs⟩
