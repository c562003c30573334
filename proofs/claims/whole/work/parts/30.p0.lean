/-! PURE: programs with guards, loops that count -/
theorem zk_t {α : Type} {b : Prop} [Decidable b] (h : b) (x : Option α) : zk b x = x := if_pos h
theorem zk_nI {α : Type} {n N : Nat} (h : n < N) (hN : N < 2 ^ 31) (x : Option α) : zk (¬ (nI n < 0 ∨ N ≤ (nI n).toNatClampNeg)) x = x := zk_t (nI_in h hN) x
def zit {σ : Type} (g : Nat → σ → σ) : Nat → Nat → σ → σ
  | _, 0, s => s
  | i, k + 1, s => zit g (i + 1) k (g i s)
theorem zl_it {σ τ ρ : Type} {F : (τ → Option ρ) → τ → Option ρ} (e : Nat → σ → τ) (K : σ → Option ρ) (g : Nat → σ → σ) (I : Nat → σ → Prop) (N : Nat)
    (hx : ∀ self s, I N s → F self (e N s) = K s)
    (hs : ∀ self i s, i < N → I i s → F self (e i s) = self (e (i + 1) (g i s)) ∧ I (i + 1) (g i s)) :
    ∀ (k i : Nat) (s : σ), i + k = N → I i s → ∀ n, k < n → zl F n (e i s) = K (zit g i k s) ∧ I N (zit g i k s) := by
  intro k
  induction k with
  | zero =>
    intro i s hi hI n hn
    obtain ⟨m, rfl⟩ : ∃ m, n = m + 1 := ⟨n - 1, by omega⟩
    have e1 : i = N := by omega
    subst e1
    exact ⟨hx _ s hI, hI⟩
  | succ k ih =>
    intro i s hi hI n hn
    obtain ⟨m, rfl⟩ : ∃ m, n = m + 1 := ⟨n - 1, by omega⟩
    obtain ⟨h1, h2⟩ := hs (zl F m) i s (by omega) hI
    show F (zl F m) (e i s) = _ ∧ _
    rw [h1]
    exact ih (i + 1) (g i s) (by omega) h2 m (by omega)
theorem zit_rel {σ τ : Type} {g : Nat → σ → σ} {h : Nat → τ → τ} (R : Nat → σ → τ → Prop) (N : Nat) (hs : ∀ i s t, i < N → R i s t → R (i + 1) (g i s) (h i t)) :
    ∀ (k i : Nat) (s : σ) (t : τ), i + k = N → R i s t → R N (zit g i k s) (zit h i k t) := by
  intro k
  induction k with
  | zero => intro i s t hi hR; have e1 : i = N := by omega
            subst e1; exact hR
  | succ k ih => intro i s t hi hR; exact ih (i + 1) _ _ (by omega) (hs i s t (by omega) hR)
theorem zit_inv {σ : Type} {g : Nat → σ → σ} (I : Nat → σ → Prop) (N : Nat) (hs : ∀ i s, i < N → I i s → I (i + 1) (g i s)) :
    ∀ (k i : Nat) (s : σ), i + k = N → I i s → I N (zit g i k s) := by
  intro k
  induction k with
  | zero => intro i s hi hR; have e1 : i = N := by omega
            subst e1; exact hR
  | succ k ih => intro i s hi hR; exact ih (i + 1) _ (by omega) (hs i s (by omega) hR)
theorem upd_s (f : Nat → Int32) (k : Nat) (x : Int32) : upd f k x k = x := pk_us
theorem upd_n (f : Nat → Int32) {k j : Nat} (x : Int32) (h : j ≠ k) : upd f k x j = f j := pk_un h
/-! SHA-256: one block -/
def shS0 (x : Int32) : Int32 := ((((x.toUInt32 >>> ((7 : Int32).toUInt32 &&& Int32.toUInt32 31)).toInt32 ||| (x <<< ((25 : Int32) &&& 31))) ^^^ ((x.toUInt32 >>> ((18 : Int32).toUInt32 &&& Int32.toUInt32 31)).toInt32 ||| (x <<< ((14 : Int32) &&& 31)))) ^^^ (x.toUInt32 >>> ((3 : Int32).toUInt32 &&& Int32.toUInt32 31)).toInt32)
def shS1 (x : Int32) : Int32 := ((((x.toUInt32 >>> ((17 : Int32).toUInt32 &&& Int32.toUInt32 31)).toInt32 ||| (x <<< ((15 : Int32) &&& 31))) ^^^ ((x.toUInt32 >>> ((19 : Int32).toUInt32 &&& Int32.toUInt32 31)).toInt32 ||| (x <<< ((13 : Int32) &&& 31)))) ^^^ (x.toUInt32 >>> ((10 : Int32).toUInt32 &&& Int32.toUInt32 31)).toInt32)
def shB1 (e : Int32) : Int32 := ((((e.toUInt32 >>> ((6 : Int32).toUInt32 &&& Int32.toUInt32 31)).toInt32 ||| (e <<< ((26 : Int32) &&& 31))) ^^^ ((e.toUInt32 >>> ((11 : Int32).toUInt32 &&& Int32.toUInt32 31)).toInt32 ||| (e <<< ((21 : Int32) &&& 31)))) ^^^ ((e.toUInt32 >>> ((25 : Int32).toUInt32 &&& Int32.toUInt32 31)).toInt32 ||| (e <<< ((7 : Int32) &&& 31))))
def shB0 (a : Int32) : Int32 := ((((a.toUInt32 >>> ((2 : Int32).toUInt32 &&& Int32.toUInt32 31)).toInt32 ||| (a <<< ((30 : Int32) &&& 31))) ^^^ ((a.toUInt32 >>> ((13 : Int32).toUInt32 &&& Int32.toUInt32 31)).toInt32 ||| (a <<< ((19 : Int32) &&& 31)))) ^^^ ((a.toUInt32 >>> ((22 : Int32).toUInt32 &&& Int32.toUInt32 31)).toInt32 ||| (a <<< ((10 : Int32) &&& 31))))
def shX (f : Nat → Int32) (i : Nat) : Int32 := (((f (i - 16)) + shS0 (f (i - 15))) + (f (i - 7))) + shS1 (f (i - 2))
def shE (f : Nat → Int32) : Nat → Int32 := zit (fun i f => upd f i (shX f i)) 16 48 f
abbrev R8 : Type := Int32 × Int32 × Int32 × Int32 × Int32 × Int32 × Int32 × Int32
def shR (w : Nat → Int32) (i : Nat) : R8 → R8
  | (a, b, c, d, e, f, g, h) => (((((h + shB1 e) + ((e &&& f) ^^^ ((e ^^^ (-1 : Int32)) &&& g))) + (tb_CONSTANTS.getD i 0)) + (w i)) + (shB0 a + (((a &&& b) ^^^ (a &&& c)) ^^^ (b &&& c))), a, b, c, d + ((((h + shB1 e) + ((e &&& f) ^^^ ((e ^^^ (-1 : Int32)) &&& g))) + (tb_CONSTANTS.getD i 0)) + (w i)), e, f, g)
def shZ (w h : Nat → Int32) : R8 := zit (shR w) 0 64 (h 0, h 1, h 2, h 3, h 4, h 5, h 6, h 7)
def shA1 (f : Nat → Int32) (k : Nat) (x : Int32) : Nat → Int32 := upd f k (f k + x)
def shA (h : Nat → Int32) : R8 → (Nat → Int32)
  | (a, b, c, d, e, f, g, k) => shA1 (shA1 (shA1 (shA1 (shA1 (shA1 (shA1 (shA1 h 0 a) 1 b) 2 c) 3 d) 4 e) 5 f) 6 g) 7 k
set_option maxHeartbeats 4000000 in
theorem p_X7_expand (K : (Nat → Int32) → Option (Int32 × (Nat → Int32) × (Nat → Int32))) (f : Nat → Int32) : zl (b_X7_compress_3 K) zF ((16 : Int32), f) = K (shE f) := by
  refine (zl_it (F := b_X7_compress_3 K) (fun i f => (nI i, f)) K (fun i f => upd f i (shX f i)) (fun i _ => 16 ≤ i) 64 ?_ ?_ 48 16 f rfl (Nat.le_refl _) zF (by have := zF_big; omega)).1
  · intro self s _
    simp only [b_X7_compress_3, zn]
    exact if_pos (by decide)
  · intro self i s hi h16
    refine ⟨?_, by omega⟩
    have h64 : ¬ (64 : Int32) ≤ nI i := nI_ge hi (by decide)
    have e15 : nI i - (15 : Int32) = nI (i - 15) := pk_sub (a := i) (b := 15) (by omega)
    have e2 : nI i - (2 : Int32) = nI (i - 2) := pk_sub (a := i) (b := 2) (by omega)
    have e16 : nI i - (16 : Int32) = nI (i - 16) := pk_sub (a := i) (b := 16) (by omega)
    have e7 : nI i - (7 : Int32) = nI (i - 7) := pk_sub (a := i) (b := 7) (by omega)
    simp only [b_X7_compress_3, zn]
    rw [if_neg h64, e15, e2, e16, e7, zk_nI (by omega) (by omega), zk_nI (by omega) (by omega), zk_nI (by omega) (by omega), zk_nI (by omega) (by omega), zk_nI (by omega) (by omega), nI_clamp (n := i - 15) (by omega), nI_clamp (n := i - 2) (by omega), nI_clamp (n := i - 16) (by omega), nI_clamp (n := i - 7) (by omega), nI_clamp (n := i) (by omega), nI_1]
    rfl
set_option maxHeartbeats 4000000 in
theorem p_X7_rounds (w : Nat → Int32) (K : Int32 → Int32 → Int32 → Int32 → Int32 → Int32 → Int32 → Int32 → Option (Int32 × (Nat → Int32) × (Nat → Int32))) (z : R8) :
    zl (b_X7_compress_182 w K) zF (z.1, z.2.1, z.2.2.1, z.2.2.2.1, z.2.2.2.2.1, z.2.2.2.2.2.1, z.2.2.2.2.2.2.1, z.2.2.2.2.2.2.2, (0 : Int32)) = (fun z : R8 => K z.1 z.2.1 z.2.2.1 z.2.2.2.1 z.2.2.2.2.1 z.2.2.2.2.2.1 z.2.2.2.2.2.2.1 z.2.2.2.2.2.2.2) (zit (shR w) 0 64 z) := by
  refine (zl_it (F := b_X7_compress_182 w K) (fun i (z : R8) => (z.1, z.2.1, z.2.2.1, z.2.2.2.1, z.2.2.2.2.1, z.2.2.2.2.2.1, z.2.2.2.2.2.2.1, z.2.2.2.2.2.2.2, nI i)) (fun z : R8 => K z.1 z.2.1 z.2.2.1 z.2.2.2.1 z.2.2.2.2.1 z.2.2.2.2.2.1 z.2.2.2.2.2.2.1 z.2.2.2.2.2.2.2) (shR w) (fun _ _ => True) 64 ?_ ?_ 64 0 z rfl trivial zF (by have := zF_big; omega)).1
  · intro self s _
    simp only [b_X7_compress_182, zn]
    exact if_pos (by decide)
  · intro self i s hi _
    refine ⟨?_, trivial⟩
    obtain ⟨a, b, c, d, e, f, g, h⟩ := s
    have h64 : ¬ (64 : Int32) ≤ nI i := nI_ge hi (by decide)
    simp only [b_X7_compress_182, zn]
    rw [if_neg h64, zk_nI (by omega) (by omega), zk_nI (by omega) (by omega), nI_clamp (n := i) (by omega), nI_1]
    rfl
