/-! the method unwrap -/
theorem hd_k : ∀ k, k < 256 → ((1 ≤ sB (nI k) ∧ sB (nI k) ≤ 2) ↔ (1 ≤ nI k ∧ nI k ≤ 2)) ∧ ((0 ≤ sB (nI k) ∧ sB (nI k) ≤ 63) ↔ nI k < 64) ∧ (nI k < 64 → sB (nI k) = nI k) ∧ (1 ≤ nI k ∧ nI k ≤ 2 → sB (nI k) = nI k) ∧ (sB (nI k) = 0 ↔ nI k = 0) ∧ (nI k &&& 32 ≤ 0 ↔ nI k &&& 32 = 0) ∧ (64 ≤ nI k ↔ ¬ nI k < 64) := by decide +kernel
def hd4 (V : Rw) : Prop := (1 ≤ V 8 ∧ V 8 ≤ 2) ∧ V 9 < 64 ∧ ¬ V 9 &&& 32 = 0 ∧ (1 ≤ V 10 ∧ V 10 ≤ 2)
def hdF (V : Rw) (L : Nat) : Prop := V 8 = 1 → nI L = 16 ∨ nI L = 32
def hdP (V : Rw) (L : Nat) : Prop := (∀ i, i < 5 → V (11 + i) = 0) ∧ hdF V L ∧ hd4 V
theorem hd_u {V : Rw} {n j : Nat} (u : isU8 V n) (h : j < n) : ((1 ≤ sB (V j) ∧ sB (V j) ≤ 2) ↔ (1 ≤ V j ∧ V j ≤ 2)) ∧ ((0 ≤ sB (V j) ∧ sB (V j) ≤ 63) ↔ V j < 64) ∧ (V j < 64 → sB (V j) = V j) ∧ (1 ≤ V j ∧ V j ≤ 2 → sB (V j) = V j) ∧ (sB (V j) = 0 ↔ V j = 0) ∧ (V j &&& 32 ≤ 0 ↔ V j &&& 32 = 0) ∧ (64 ≤ V j ↔ ¬ V j < 64) := by
  obtain ⟨k, hk, e⟩ := uNat (u j h)
  rw [e]
  exact hd_k k hk
theorem zkT1' {α : Type} {d : Decidable True} (x : Option α) : @zk α True d x = x := if_pos trivial
theorem p_head {L : Nat} {c V : Rw} (hc : ∀ j, 8 ≤ j → j < 16 → c j = sB (V j)) (u : isU8 V 16) (hL : 1 ≤ L) (hL2 : L ≤ 64) : ∃ r, f_X9_isWrappedHead 80 (nI L) c = some r ∧ ((r = 1 ∧ hdP V L) ∨ (r = 0 ∧ ¬ hdP V L)) := by
  unfold f_X9_isWrappedHead
  rw [zjE]
  refine zl_up (F := b_X9_isWrappedHead_5 80 c _) (fun i (s : Int32) => (s, nI i)) (fun i s => (s = 1 ∧ ∀ t, t < i - 11 → V (11 + t) = 0) ∨ (s = 0 ∧ ¬ ∀ t, t < 5 → V (11 + t) = 0)) 11 16 (1 : Int32) (fun o => ∃ r, o = some r ∧ ((r = 1 ∧ hdP V L) ∨ (r = 0 ∧ ¬ hdP V L))) (by omega) (by omega) (Or.inl ⟨rfl, fun t ht => by omega⟩) ?_ ?_
  · intro self s hs
    simp only [b_X9_isWrappedHead_5]
    rw [if_pos (by decide)]
    rcases hs with ⟨rfl, hz⟩ | ⟨rfl, hz⟩
    · have e8 : Int32.toNatClampNeg 8 = 8 := by decide
      have e9 : Int32.toNatClampNeg 9 = 9 := by decide
      have e10 : Int32.toNatClampNeg 10 = 10 := by decide
      have c8 := hc 8 (by omega) (by omega)
      have c9 := hc 9 (by omega) (by omega)
      have c10 := hc 10 (by omega) (by omega)
      obtain ⟨a1, -, -, a4, -, -, -⟩ := hd_u u (show 8 < 16 by omega)
      obtain ⟨-, b2, b3, -, -, -, -⟩ := hd_u u (show 9 < 16 by omega)
      obtain ⟨d1, -, -, -, -, -, -⟩ := hd_u u (show 10 < 16 by omega)
      have a1' := propext a1
      have b2' := propext b2
      have d1' := propext d1
      have lf : ∀ k, f_X9_lengthFits k (nI L) = some (if (k = 1 → nI L = 16 ∨ nI L = 32) then 1 else 0) := fun k => p_lengthFits k (nI L) ⟨nI_le (a := 1) hL (by omega), nI_le (b := 64) hL2 (by omega)⟩
      by_cases g1 : 1 ≤ V 8 ∧ V 8 ≤ 2
      · have a5 := a4 g1
        by_cases g2 : hdF V L
        · have g2' := eq_true (show V 8 = 1 → nI L = 16 ∨ nI L = 32 from g2)
          by_cases g3 : V 9 < 64
          · have b4 := b3 g3
            have b5 : (0 ≤ V 9 ∧ V 9 ≤ 63) = True := by
              rw [b4] at b2
              exact eq_true (b2.mpr g3)
            by_cases g4 : V 9 &&& 32 = 0
            · refine ⟨0, ?_, Or.inr ⟨rfl, fun q => q.2.2.2.2.1 g4⟩⟩
              simp (decide := true) only [ite_true, ite_false, zkT1', e8, e9, e10, c8, c9, c10, p_isKind, p_isUsage, p_isRole, lf, zbE, a1', a5, b4, b5, d1', eq_true g1, g2', eq_true g3, eq_true g4]
            · by_cases g5 : 1 ≤ V 10 ∧ V 10 ≤ 2
              · refine ⟨1, ?_, Or.inl ⟨rfl, hz, g2, g1, g3, g4, g5⟩⟩
                simp (decide := true) only [ite_true, ite_false, zkT1', e8, e9, e10, c8, c9, c10, p_isKind, p_isUsage, p_isRole, lf, zbE, a1', a5, b4, b5, d1', eq_true g1, g2', eq_true g3, eq_false g4, eq_true g5]
              · refine ⟨0, ?_, Or.inr ⟨rfl, fun q => g5 q.2.2.2.2.2⟩⟩
                simp (decide := true) only [ite_true, ite_false, zkT1', e8, e9, e10, c8, c9, c10, p_isKind, p_isUsage, p_isRole, lf, zbE, a1', a5, b4, b5, d1', eq_true g1, g2', eq_true g3, eq_false g4, eq_false g5]
          · refine ⟨0, ?_, Or.inr ⟨rfl, fun q => g3 q.2.2.2.1⟩⟩
            simp (decide := true) only [ite_true, ite_false, zkT1', e8, e9, e10, c8, c9, c10, p_isKind, p_isUsage, p_isRole, lf, zbE, a1', a5, b2', eq_true g1, g2', eq_false g3]
        · have g2' := eq_false (show ¬ (V 8 = 1 → nI L = 16 ∨ nI L = 32) from g2)
          refine ⟨0, ?_, Or.inr ⟨rfl, fun q => g2 q.2.1⟩⟩
          simp (decide := true) only [ite_true, ite_false, zkT1', e8, e9, e10, c8, c9, c10, p_isKind, p_isUsage, p_isRole, lf, zbE, a1', a5, eq_true g1, g2']
      · refine ⟨0, ?_, Or.inr ⟨rfl, fun q => g1 q.2.2.1⟩⟩
        simp (decide := true) only [ite_true, ite_false, zkT1', e8, e9, e10, c8, c9, c10, p_isKind, zbE, a1', eq_false g1]
    · exact ⟨0, if_pos rfl, Or.inr ⟨rfl, fun q => hz q.1⟩⟩
  · intro self i s h11 hi hI
    simp only [b_X9_isWrappedHead_5]
    rw [if_neg (show ¬ (16 : Int32) ≤ nI i from nI_ge (a := i) (b := 16) hi (by omega)), zA]
    rcases hI with ⟨rfl, hz⟩ | ⟨rfl, hz⟩
    · rw [if_neg (by decide), zk_T (nI_in (by omega) (by omega)), nI_clamp (by omega), hc i (by omega) (by omega)]
      obtain ⟨-, -, -, -, a5, -, -⟩ := hd_u u (show i < 16 by omega)
      by_cases g : V i = 0
      · refine ⟨1, Or.inl ⟨rfl, fun t ht => ?_⟩, if_pos (a5.mpr g)⟩
        by_cases q : t = i - 11
        · rw [q, show 11 + (i - 11) = i by omega]; exact g
        · exact hz t (by omega)
      · refine ⟨0, Or.inr ⟨rfl, fun q => g ?_⟩, if_neg (fun q => g (a5.mp q))⟩
        have := q (i - 11) (by omega)
        rwa [show 11 + (i - 11) = i by omega] at this
    · exact ⟨0, Or.inr ⟨rfl, hz⟩, if_pos rfl⟩
theorem l_unwrapV {ρ : Type} {re V : Rw} (K : Int32 → Option ρ) (P : Option ρ → Prop) (he : eqN 16 re V) (u : isU8 V 16) (h : ∀ b, ((b = 1 ∧ hd4 V) ∨ (b = 0 ∧ ¬ hd4 V)) → P (K b)) : P (zk (¬ ((8 : Int32) < 0 ∨ 600 ≤ (8 : Int32).toNatClampNeg)) ((f_X10_in (re (8 : Int32).toNatClampNeg) (1 : Int32) (2 : Int32)).bind (fun r_53 => zj K (fun K_55 => zj (fun (_ : Unit) => K_55 (0 : Int32)) (fun K_96 => if r_53 = 0 then K_96 () else zk (¬ ((9 : Int32) < 0 ∨ 600 ≤ (9 : Int32).toNatClampNeg)) (if (64 : Int32) ≤ (re (9 : Int32).toNatClampNeg) then K_96 () else zk (¬ ((9 : Int32) < 0 ∨ 600 ≤ (9 : Int32).toNatClampNeg)) (if ((re (9 : Int32).toNatClampNeg) &&& (32 : Int32)) ≤ 0 then K_96 () else zk (¬ ((10 : Int32) < 0 ∨ 600 ≤ (10 : Int32).toNatClampNeg)) ((f_X10_in (re (10 : Int32).toNatClampNeg) (1 : Int32) (2 : Int32)).bind (fun r_103 => if r_103 = 0 then K_96 () else K_55 (1 : Int32)))))))))) := by
  have e8 : Int32.toNatClampNeg 8 = 8 := by decide
  have e9 : Int32.toNatClampNeg 9 = 9 := by decide
  have e10 : Int32.toNatClampNeg 10 = 10 := by decide
  have c8 := he 8 (by omega)
  have c9 := he 9 (by omega)
  have c10 := he 10 (by omega)
  obtain ⟨-, -, -, -, -, a6, a7⟩ := hd_u u (show 9 < 16 by omega)
  have a6' := propext a6
  have a7' := propext a7
  by_cases g1 : 1 ≤ V 8 ∧ V 8 ≤ 2
  · by_cases g3 : V 9 < 64
    · by_cases g4 : V 9 &&& 32 = 0
      · simp (decide := true) only [ite_true, ite_false, zkT1', e8, e9, e10, c8, c9, c10, p_in, zbE, zjE, a6', a7', eq_true g1, eq_true g3, eq_true g4]
        exact h 0 (Or.inr ⟨rfl, fun q => q.2.2.1 g4⟩)
      · by_cases g5 : 1 ≤ V 10 ∧ V 10 ≤ 2
        · simp (decide := true) only [ite_true, ite_false, zkT1', e8, e9, e10, c8, c9, c10, p_in, zbE, zjE, a6', a7', eq_true g1, eq_true g3, eq_false g4, eq_true g5]
          exact h 1 (Or.inl ⟨rfl, g1, g3, g4, g5⟩)
        · simp (decide := true) only [ite_true, ite_false, zkT1', e8, e9, e10, c8, c9, c10, p_in, zbE, zjE, a6', a7', eq_true g1, eq_true g3, eq_false g4, eq_false g5]
          exact h 0 (Or.inr ⟨rfl, fun q => g5 q.2.2.2⟩)
    · simp (decide := true) only [ite_true, ite_false, zkT1', e8, e9, e10, c8, c9, c10, p_in, zbE, zjE, a6', a7', eq_true g1, eq_false g3]
      exact h 0 (Or.inr ⟨rfl, fun q => g3 q.2.1⟩)
  · simp (decide := true) only [ite_true, ite_false, zkT1', e8, e9, e10, c8, c9, c10, p_in, zbE, zjE, eq_false g1]
    exact h 0 (Or.inr ⟨rfl, fun q => g1 q.1⟩)
theorem l_unwrap421 {re V : Rw} {b : Int32} (K : Int32 → Option _) (P : Option _ → Prop) (he : eqN 16 re V) (hb : b = 0 ∨ b = 1) (h : ∀ r, ((r = 1 ∧ b = 1 ∧ (∀ i, i < 8 → V i = 166) ∧ (∀ i, i < 5 → V (11 + i) = 0)) ∨ (r = 0 ∧ ¬ (b = 1 ∧ (∀ i, i < 8 → V i = 166) ∧ (∀ i, i < 5 → V (11 + i) = 0)))) → P (K r)) : P (zl (b_X10_unwrap_421 re K) zF (b, (0 : Int32))) := by
  refine zl_up (F := b_X10_unwrap_421 re K) (fun i (s : Int32) => (s, nI i)) (fun j s => (s = 1 ∧ b = 1 ∧ (∀ i, i < j → V i = 166) ∧ (∀ i, 3 ≤ i → i < j → V (8 + i) = 0)) ∨ (s = 0 ∧ ¬ (b = 1 ∧ (∀ i, i < 8 → V i = 166) ∧ (∀ i, i < 5 → V (11 + i) = 0)))) 0 8 b P (by omega) (by omega) ?_ ?_ ?_
  · rcases hb with rfl | rfl
    · exact Or.inr ⟨rfl, fun q => absurd q.1 (by decide)⟩
    · exact Or.inl ⟨rfl, rfl, fun i hi => by omega, fun i h3 hi => by omega⟩
  · intro self s hs
    simp only [b_X10_unwrap_421]
    rw [if_pos (by decide)]
    rcases hs with ⟨h1, h2, h3, h4⟩ | hs
    · refine h s (Or.inl ⟨h1, h2, h3, fun i hi => ?_⟩)
      rw [show 11 + i = 8 + (3 + i) by omega]
      exact h4 _ (by omega) (by omega)
    · exact h s (Or.inr hs)
  · intro self j s _ hj hI
    simp only [b_X10_unwrap_421]
    rw [if_neg (show ¬ (8 : Int32) ≤ nI j from nI_ge (a := j) (b := 8) hj (by omega)), zA]
    rcases hI with ⟨rfl, h2, h3, h4⟩ | ⟨rfl, h5⟩
    · rw [if_neg (by decide), zk_T (nI_in (by omega) (by omega)), nI_clamp (by omega), he j (by omega)]
      by_cases g : V j = 166
      · rw [if_pos g]
        have h3' : ∀ i, i < j + 1 → V i = 166 := fun i hi => by
          by_cases q : i = j
          · rw [q]; exact g
          · exact h3 i (by omega)
        by_cases g3 : j < 3
        · rw [if_pos (show nI j < (3 : Int32) from nI_lt (b := 3) g3 (by omega))]
          exact ⟨1, Or.inl ⟨rfl, h2, h3', fun i q1 q2 => by omega⟩, rfl⟩
        · rw [if_neg (show ¬ nI j < (3 : Int32) from fun q => g3 ((nI_ltI (a := j) (b := 3) (by omega) (by omega)).mp q)), zA2, zk_T (nI_in (by omega) (by omega)), nI_clamp (by omega), he _ (by omega)]
          by_cases g4 : V (8 + j) = 0
          · rw [if_pos g4]
            refine ⟨1, Or.inl ⟨rfl, h2, h3', fun i q1 q2 => ?_⟩, rfl⟩
            by_cases q : i = j
            · rw [q]; exact g4
            · exact h4 i q1 (by omega)
          · rw [if_neg g4]
            refine ⟨0, Or.inr ⟨rfl, fun q => g4 ?_⟩, rfl⟩
            have := q.2.2 (j - 3) (by omega)
            rwa [show 11 + (j - 3) = 8 + j by omega] at this
      · rw [if_neg g]
        exact ⟨0, Or.inr ⟨rfl, fun q => g (q.2.1 j hj)⟩, rfl⟩
    · exact ⟨0, Or.inr ⟨rfl, h5⟩, if_pos rfl⟩
theorem l_unwrap171 {n : Nat} (mb re : Rw) (K : Rw → Option _) (hn : n ≤ 80) : zl (b_X10_unwrap_171 (nI n) mb K) zF ((0 : Int32), re) = K (zrow 0 n mb re) := by
  refine zl_cpy (F := b_X10_unwrap_171 (nI n) mb K) 0 n mb re K (by omega) ?_ ?_
  · intro self f
    simp only [b_X10_unwrap_171]
    exact if_pos (nI_le (Nat.le_refl _) (by omega))
  · intro self i f hi
    simp (disch := omega) only [b_X10_unwrap_171, zle, if_neg, zCl, zki, zki2, znE, zA, Nat.zero_add, zlt2]
theorem l_unwrap538 {s n : Nat} (re keys : Rw) (K : Rw → Option _) (hs : s < 16) (hn : n ≤ 64) : zl (b_X10_unwrap_538 (nI s) (nI (16 + n)) re K) zF ((0 : Int32), keys) = K (zrow (64 * s) n (fun i => re (16 + i)) keys) := by
  have e : nI (16 + n) - (16 : Int32) = nI n := by rw [zS (by omega), Nat.add_sub_cancel_left]
  refine zl_cpy (F := b_X10_unwrap_538 (nI s) (nI (16 + n)) re K) (64 * s) n (fun i => re (16 + i)) keys K (by omega) ?_ ?_
  · intro self f
    simp only [b_X10_unwrap_538]
    rw [e]
    exact if_pos (nI_le (Nat.le_refl _) (by omega))
  · intro self i f hi
    simp only [b_X10_unwrap_538]
    rw [e]
    simp (disch := omega) only [zle, if_neg, zM, zA2, nI_add, zCl, zki, zki2, znE, zA, zlt2]
