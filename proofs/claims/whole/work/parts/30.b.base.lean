/-! PURE: numbers and guards, rewritten by simp with omega for the sides -/
theorem zA (n k : Nat) : nI n + (no_index (OfNat.ofNat k) : Int32) = nI (n + (OfNat.ofNat k : Nat)) := nI_add n k
theorem zA2 (n k : Nat) : (no_index (OfNat.ofNat k) : Int32) + nI n = nI ((OfNat.ofNat k : Nat) + n) := nI_add k n
theorem zM (n k : Nat) : (no_index (OfNat.ofNat k) : Int32) * nI n = nI ((OfNat.ofNat k : Nat) * n) := pk_mul k n
theorem zM2 (n k : Nat) : nI n * (no_index (OfNat.ofNat k) : Int32) = nI (n * (OfNat.ofNat k : Nat)) := pk_mul n k
theorem zS {n k : Nat} (h : (OfNat.ofNat k : Nat) ≤ n) : nI n - (no_index (OfNat.ofNat k) : Int32) = nI (n - (OfNat.ofNat k : Nat)) := pk_sub (a := n) (b := k) h
theorem zS2 {n k : Nat} (h : n ≤ (OfNat.ofNat k : Nat)) : (no_index (OfNat.ofNat k) : Int32) - nI n = nI ((OfNat.ofNat k : Nat) - n) := pk_sub (a := k) (b := n) h
theorem zSn {n k : Nat} (h : k ≤ n) : nI n - nI k = nI (n - k) := pk_sub h
theorem zDv {n k : Nat} (hn : n < 2 ^ 31) (h0 : 0 < (OfNat.ofNat k : Nat)) (hk : (OfNat.ofNat k : Nat) < 2 ^ 31) : nI n / (no_index (OfNat.ofNat k) : Int32) = nI (n / (OfNat.ofNat k : Nat)) := pk_div hn h0 hk
theorem zM1 {n : Nat} (h : 1 ≤ n) : nI n + (-1 : Int32) = nI (n - 1) := by
  obtain ⟨m, rfl⟩ : ∃ m, n = m + 1 := ⟨n - 1, by omega⟩
  exact pk_m1 m
theorem zCl {n : Nat} (h : n < 2 ^ 31) : (nI n).toNatClampNeg = n := nI_clamp h
theorem zClk {k : Nat} (h : (OfNat.ofNat k : Nat) < 2 ^ 31) : (no_index (OfNat.ofNat k) : Int32).toNatClampNeg = (OfNat.ofNat k : Nat) := nI_clamp (n := k) h
theorem zle1 {n k : Nat} (hn : n < 2 ^ 31) (hk : (OfNat.ofNat k : Nat) < 2 ^ 31) : (no_index (OfNat.ofNat k) : Int32) ≤ nI n ↔ (OfNat.ofNat k : Nat) ≤ n := nI_leI (a := k) (b := n) hk hn
theorem zle2 {n k : Nat} (hn : n < 2 ^ 31) (hk : (OfNat.ofNat k : Nat) < 2 ^ 31) : nI n ≤ (no_index (OfNat.ofNat k) : Int32) ↔ n ≤ (OfNat.ofNat k : Nat) := nI_leI (a := n) (b := k) hn hk
theorem zlt1 {n k : Nat} (hn : n < 2 ^ 31) (hk : (OfNat.ofNat k : Nat) < 2 ^ 31) : (no_index (OfNat.ofNat k) : Int32) < nI n ↔ (OfNat.ofNat k : Nat) < n := nI_ltI (a := k) (b := n) hk hn
theorem zlt2 {n k : Nat} (hn : n < 2 ^ 31) (hk : (OfNat.ofNat k : Nat) < 2 ^ 31) : nI n < (no_index (OfNat.ofNat k) : Int32) ↔ n < (OfNat.ofNat k : Nat) := nI_ltI (a := n) (b := k) hn hk
theorem zeq1 {n k : Nat} (hn : n < 2 ^ 31) (hk : (OfNat.ofNat k : Nat) < 2 ^ 31) : nI n = (no_index (OfNat.ofNat k) : Int32) ↔ n = (OfNat.ofNat k : Nat) := nI_eq (a := n) (b := k) hn hk
theorem zle {n k : Nat} (hn : n < 2 ^ 31) (hk : k < 2 ^ 31) : nI n ≤ nI k ↔ n ≤ k := nI_leI hn hk
theorem zlt {n k : Nat} (hn : n < 2 ^ 31) (hk : k < 2 ^ 31) : nI n < nI k ↔ n < k := nI_ltI hn hk
theorem zeq {n k : Nat} (hn : n < 2 ^ 31) (hk : k < 2 ^ 31) : nI n = nI k ↔ n = k := nI_eq hn hk
/-- guards -/
theorem zk_T {α : Type} {b : Prop} {d : Decidable b} (h : b) (x : Option α) : @zk α b d x = x := if_pos h
theorem zki {α : Type} {n N : Nat} {d : Decidable (¬ (nI n < 0 ∨ N ≤ n))} (h : n < N) (hN : N < 2 ^ 31) (x : Option α) : @zk α (¬ (nI n < 0 ∨ N ≤ n)) d x = x :=
  if_pos (fun q => q.elim (nI_pos (by omega)) (by omega))
theorem zki2 {α : Type} {n N : Nat} {d : Decidable (¬ (n < 0 ∨ N ≤ n))} (h : n < N) (x : Option α) : @zk α (¬ (n < 0 ∨ N ≤ n)) d x = x := if_pos (by omega)
theorem zkk {α : Type} {k N : Nat} {d : Decidable (¬ ((no_index (OfNat.ofNat k) : Int32) < 0 ∨ N ≤ (no_index (OfNat.ofNat k : Nat))))} (h : (OfNat.ofNat k : Nat) < N) (hN : N < 2 ^ 31) (x : Option α) : @zk α (¬ ((no_index (OfNat.ofNat k) : Int32) < 0 ∨ N ≤ (no_index (OfNat.ofNat k : Nat)))) d x = x :=
  if_pos (fun q => q.elim (nI_pos (n := k) (Nat.lt_trans h hN)) (fun z => absurd h (Nat.not_lt.mpr z)))
theorem zkn {α : Type} {k : Nat} {d : Decidable (¬ (no_index (OfNat.ofNat k) : Int32) = 0)} (h0 : 0 < (OfNat.ofNat k : Nat)) (hk : (OfNat.ofNat k : Nat) < 2 ^ 31) (x : Option α) : @zk α (¬ (no_index (OfNat.ofNat k) : Int32) = 0) d x = x :=
  if_pos (nI_ne0 (n := k) h0 hk)
theorem znE {α β : Type} (v : α) (k : α → Option β) : zn v k = k v := rfl
theorem zjE {α β : Type} (v : α) (k : α → Option β) : zj v k = k v := rfl
theorem zbE {α β : Type} (v : α) (k : α → Option β) : (some v).bind k = k v := rfl
/-- a row that is laid place by place -/
def zrow (a n : Nat) (g f : Nat → Int32) : Nat → Int32 := fun j => if a ≤ j ∧ j < a + n then g (j - a) else f j
theorem zrow_in {a n : Nat} {g f : Nat → Int32} {j : Nat} (h : a ≤ j) (h2 : j < a + n) : zrow a n g f j = g (j - a) := if_pos ⟨h, h2⟩
theorem zrow_out {a n : Nat} {g f : Nat → Int32} {j : Nat} (h : j < a ∨ a + n ≤ j) : zrow a n g f j = f j := if_neg (by omega)
theorem zrow_0 {n : Nat} {g f : Nat → Int32} {j : Nat} (h : j < n) : zrow 0 n g f j = g j := if_pos (by omega)
theorem zl_row {τ ρ : Type} {F : (τ → Option ρ) → τ → Option ρ} (mk : Nat → (Nat → Int32) → τ) (K : (Nat → Int32) → Option ρ) (a n : Nat) (g f0 : Nat → Int32) (hn : n ≤ 1500)
    (hx : ∀ self f, F self (mk n f) = K f)
    (hs : ∀ self i f, i < n → (∀ j, j < a ∨ a + i ≤ j → f j = f0 j) → F self (mk i f) = self (mk (i + 1) (upd f (a + i) (g i)))) :
    zl F zF (mk 0 f0) = K (zrow a n g f0) := by
  have key : ∀ (k i : Nat), i + k = n → ∀ m, k < m → zl F m (mk i (zrow a i g f0)) = K (zrow a n g f0) := by
    intro k
    induction k with
    | zero =>
      intro i hi m hm
      obtain ⟨q, rfl⟩ : ∃ q, m = q + 1 := ⟨m - 1, by omega⟩
      have : i = n := by omega
      subst this
      exact hx _ _
    | succ k ih =>
      intro i hi m hm
      obtain ⟨q, rfl⟩ : ∃ q, m = q + 1 := ⟨m - 1, by omega⟩
      have h1 := hs (zl F q) i (zrow a i g f0) (by omega) (fun j hj => zrow_out hj)
      have h2 : upd (zrow a i g f0) (a + i) (g i) = zrow a (i + 1) g f0 := by
        funext j
        unfold upd zrow
        by_cases e : j = a + i
        · subst e
          rw [if_pos rfl, if_pos (by omega), show a + i - a = i by omega]
        · rw [if_neg e]
          by_cases h : a ≤ j ∧ j < a + i
          · rw [if_pos h, if_pos (by omega)]
          · rw [if_neg h, if_neg (by omega)]
      rw [h2] at h1
      exact h1.trans (ih (i + 1) (by omega) q (by omega))
  have h0 : zrow a 0 g f0 = f0 := by
    funext j
    exact zrow_out (by omega)
  have := key n 0 (by omega) zF (by have := zF_big; omega)
  rw [h0] at this
  exact this
/-- a loop that counts up, by an invariant, to what is behind it -/
theorem zl_up {σ τ ρ : Type} {F : (τ → Option ρ) → τ → Option ρ} (e : Nat → σ → τ) (I : Nat → σ → Prop) (a n : Nat) (s0 : σ) (P : Option ρ → Prop) (hn : n ≤ a + 1500) (ha : a ≤ n) (h0 : I a s0)
    (hx : ∀ self s, I n s → P (F self (e n s)))
    (hs : ∀ self i s, a ≤ i → i < n → I i s → ∃ s', I (i + 1) s' ∧ F self (e i s) = self (e (i + 1) s')) : P (zl F zF (e a s0)) := by
  have key : ∀ (k i : Nat) (s : σ), a ≤ i → i + k = n → I i s → ∀ m, k < m → P (zl F m (e i s)) := by
    intro k
    induction k with
    | zero =>
      intro i s hai hi hI m hm
      obtain ⟨q, rfl⟩ : ∃ q, m = q + 1 := ⟨m - 1, by omega⟩
      have : i = n := by omega
      subst this
      exact hx _ _ hI
    | succ k ih =>
      intro i s hai hi hI m hm
      obtain ⟨q, rfl⟩ : ∃ q, m = q + 1 := ⟨m - 1, by omega⟩
      obtain ⟨s', h1, h2⟩ := hs (zl F q) i s hai (by omega) hI
      show P (F (zl F q) (e i s))
      rw [h2]
      exact ih (i + 1) s' (by omega) (by omega) h1 q (by omega)
  exact key (n - a) a s0 (Nat.le_refl _) (by omega) h0 zF (by have := zF_big; omega)
/-! bytes: a class' byte (from -128) and a model's byte (0 to 255) -/
def isB (c : Int32) : Prop := c.toInt8.toInt32 = c
def isU (m : Int32) : Prop := m &&& 255 = m
def sB (m : Int32) : Int32 := m.toInt8.toInt32
def uB (c : Int32) : Int32 := c &&& 255
