/-! key wrapping -/
abbrev Rw := Nat → Int32
def wX (M : Rw) (r : Nat) : Rw := fun i => if i < 8 then M i else M (r + i - 8)
def wS (E : Rw → Rw) (n k : Nat) (M : Rw) : Rw := zrow (8 + 8 * (k % n)) 8 (fun i => E (wX M (8 + 8 * (k % n))) (8 + i)) (zrow 0 8 (fun i => E (wX M (8 + 8 * (k % n))) i ^^^ (if i = 7 then nI (k + 1) else 0)) M)
theorem wS_def (E : Rw → Rw) (n k : Nat) (M : Rw) : wS E n k M = zrow (8 + 8 * (k % n)) 8 (fun i => E (wX M (8 + 8 * (k % n))) (8 + i)) (zrow 0 8 (fun i => E (wX M (8 + 8 * (k % n))) i ^^^ (if i = 7 then nI (k + 1) else 0)) M) := rfl
theorem wX_u {M : Rw} {r N : Nat} (u : isU8 M N) (h : r + 8 ≤ N) (hr : 8 ≤ r) : isU8 (wX M r) 16 := by
  intro i hi
  unfold wX
  by_cases h8 : i < 8
  · rw [if_pos h8]; exact u i (by omega)
  · rw [if_neg h8]; exact u _ (by omega)
theorem wX_c {M M' : Rw} {r N : Nat} (u : eqN N M M') (h : r + 8 ≤ N) (hr : 8 ≤ r) : eq16 (wX M r) (wX M' r) := by
  intro i hi
  unfold wX
  by_cases h8 : i < 8
  · rw [if_pos h8, if_pos h8]; exact u i (by omega)
  · rw [if_neg h8, if_neg h8]; exact u _ (by omega)
theorem wr_r {k n : Nat} (hn : 0 < n) : 8 + 8 * (k % n) + 8 ≤ 8 + 8 * n := by
  have := Nat.mod_lt k hn
  omega
theorem t7_u {t : Nat} (h : t < 256) (i : Nat) : (if i = 7 then nI t else 0) &&& 255 = (if i = 7 then nI t else 0) := by
  by_cases h7 : i = 7
  · rw [if_pos h7]; exact nI_u h
  · rw [if_neg h7]; rfl
theorem wS_u {E : Rw → Rw} (hE : ∀ s, isU8 s 16 → isU8 (E s) 16) {n k : Nat} {M : Rw} (hn : 0 < n) (hk : k < 255) (u : isU8 M (8 + 8 * n)) : isU8 (wS E n k M) (8 + 8 * n) := by
  have h1 := hE _ (wX_u u (wr_r (k := k) hn) (by omega))
  exact U_row (U_row u (fun i hi => xorU (h1 _ (by omega)) (t7_u (by omega) i))) (fun i hi => h1 _ (by omega))
theorem wS_c {E : Rw → Rw} (hE : ∀ s t, eq16 s t → eq16 (E s) (E t)) {n k : Nat} {M M' : Rw} (hn : 0 < n) (u : eqN (8 + 8 * n) M M') : eqN (8 + 8 * n) (wS E n k M) (wS E n k M') := by
  have h1 := hE _ _ (wX_c u (wr_r (k := k) hn) (by omega))
  exact eqN_row (eqN_row u (fun i hi => by rw [h1 _ (by omega)])) (fun i hi => h1 _ (by omega))
theorem zis_u {g : Nat → Rw → Rw} {N B : Nat} (hg : ∀ k s, k < B → isU8 s N → isU8 (g k s) N) {M : Rw} (u : isU8 M N) : ∀ k, k ≤ B → isU8 (zis g M k) N
  | 0, _ => u
  | k + 1, h => hg k _ (by omega) (zis_u hg u k (by omega))
theorem upd2_row {x i : Nat} {g h f : Rw} (hx : i < x) : upd (upd (zrow x i g (zrow 0 i h f)) i (h i)) (x + i) (g i) = zrow x (i + 1) g (zrow 0 (i + 1) h f) := by
  funext j
  by_cases h1 : j = x + i
  · subst h1
    rw [upd_s, zrow_in (by omega) (by omega), show x + i - x = i by omega]
  · rw [upd_n _ _ h1]
    by_cases h2 : j = i
    · subst h2
      rw [upd_s, zrow_out (by omega), zrow_0 (by omega)]
    · rw [upd_n _ _ h2]
      by_cases h3 : x ≤ j ∧ j < x + i
      · rw [zrow_in h3.1 h3.2, zrow_in h3.1 (by omega)]
      · rw [zrow_out (by omega), zrow_out (a := x) (n := i + 1) (by omega)]
        by_cases h4 : j < i
        · rw [zrow_0 h4, zrow_0 (by omega)]
        · rw [zrow_out (by omega), zrow_out (by omega)]
/-! in the model -/
theorem l_wrap379 {x : Nat} (re bl : Rw) (K : Rw → Option _) (hx : 8 ≤ x) (h : x + 8 ≤ 600) : zl (b_X10_wrap_379 re (nI x) K) zF ((0 : Int32), bl) = K (zrow 0 16 (wX re x) bl) := by
  refine zl_cpy (F := b_X10_wrap_379 re (nI x) K) 0 16 (wX re x) bl K (by omega) ?_ ?_
  · intro self f
    simp only [b_X10_wrap_379]
    exact if_pos (by decide)
  · intro self i f hi
    unfold wX
    by_cases h8 : i < 8
    · simp (disch := omega) only [b_X10_wrap_379, zle1, if_neg, if_pos, zCl, zki, zki2, znE, zA, Nat.zero_add, zlt2]
    · simp (disch := omega) only [b_X10_wrap_379, zle1, if_neg, if_pos, nI_add, zS, zCl, zki, zki2, znE, zA, Nat.zero_add, zlt2]
set_option maxHeartbeats 4000000 in
theorem l_wrap436 {x t : Nat} (bl re : Rw) (K : Rw → Option _) (hx : 8 ≤ x) (h : x + 8 ≤ 600) : zl (b_X10_wrap_436 (nI t) (nI x) bl K) zF ((0 : Int32), re) = K (zrow x 8 (fun i => bl (8 + i)) (zrow 0 8 (fun i => bl i ^^^ (if i = 7 then nI t else 0)) re)) := by
  refine zl_up (F := b_X10_wrap_436 (nI t) (nI x) bl K) (fun i (f : Rw) => (nI i, f)) (fun i f => f = zrow x i (fun i => bl (8 + i)) (zrow 0 i (fun i => bl i ^^^ (if i = 7 then nI t else 0)) re)) 0 8 re (fun q => q = K (zrow x 8 (fun i => bl (8 + i)) (zrow 0 8 (fun i => bl i ^^^ (if i = 7 then nI t else 0)) re))) (by omega) (by omega) (by rw [zrow_n0, zrow_n0]) ?_ ?_
  · intro self f hf
    simp only [b_X10_wrap_436]
    rw [hf]
    exact if_pos (by decide)
  · intro self i f _ hi hf
    refine ⟨_, (upd2_row (x := x) (i := i) (g := fun i => bl (8 + i)) (h := fun i => bl i ^^^ (if i = 7 then nI t else 0)) (f := re) (by omega)), ?_⟩
    rw [← hf]
    by_cases h7 : i = 7
    · subst h7
      simp (disch := omega) only [b_X10_wrap_436, zle1, zeq1, if_neg, if_pos, nI_add, zA2, zCl, zki, zki2, znE, zjE, zA, zlt2]
      rfl
    · simp (disch := omega) only [b_X10_wrap_436, zle1, zeq1, if_neg, if_pos, nI_add, zA2, zCl, zki, zki2, znE, zjE, zA, zlt2]
theorem nI_mod {k n : Nat} (hk : k < 2 ^ 31) (h0 : 0 < n) (hn : n < 2 ^ 31) : nI k - nI k / nI n * nI n = nI (k % n) := by
  rw [pk_div hk h0 hn, pk_mul, zSn (Nat.div_mul_le_self k n)]
  congr 1
  have := Nat.div_add_mod k n
  rw [Nat.mul_comm] at this
  omega
set_option maxHeartbeats 4000000 in
theorem l_wrap353 {n R : Nat} {bx rk re M : Rw} (bl o : Rw) (K : Rw → Rw → Rw → Option _) (P : Option _ → Prop) (hn : 0 < n) (hn9 : n ≤ 9) (hM : eqN (8 + 8 * n) re M) (u : isU8 M (8 + 8 * n)) (hbx : ∀ k, k < 256 → bx k = tb_BOX.getD k 0) (hk : isU8 rk (16 * (R + 1))) (h1 : 1 ≤ R) (hR : R ≤ 14)
    (hK : ∀ bl o re, eqN (8 + 8 * n) re (zis (wS (aesE rk R) n) M (6 * n)) → P (K bl o re)) : P (zl (b_X10_wrap_353 bx (nI n) (nI R) rk K) zF ((1 : Int32), bl, o, re)) := by
  have uE : ∀ s, isU8 s 16 → isU8 (aesE rk R s) 16 := fun s hs => aesE_u hs h1 hk
  have cE : ∀ s t, eq16 s t → eq16 (aesE rk R s) (aesE rk R t) := fun s t hs => aesE_c hs h1 (fun _ _ => rfl)
  refine zl_up (F := b_X10_wrap_353 bx (nI n) (nI R) rk K) (fun k (s : Rw × Rw × Rw) => (nI (k + 1), s.1, s.2.1, s.2.2)) (fun k s => eqN (8 + 8 * n) s.2.2 (zis (wS (aesE rk R) n) M k)) 0 (6 * n) (bl, o, re) P (by omega) (by omega) hM ?_ ?_
  · intro self s hs
    obtain ⟨bl, o, re⟩ := s
    simp only [b_X10_wrap_353]
    rw [zM, if_pos (nI_lt (by omega) (by omega))]
    exact hK _ _ _ hs
  · intro self k s _ hk2 hs
    obtain ⟨bl, o, re⟩ := s
    have hs' : eqN (8 + 8 * n) re (zis (wS (aesE rk R) n) M k) := hs
    have uk := zis_u (fun k s hk => wS_u uE hn (show k < 255 by omega)) u k (show k ≤ 6 * n by omega)
    obtain ⟨r, hr⟩ : ∃ r, r = 8 + 8 * (k % n) := ⟨_, rfl⟩
    have hr1 : r + 8 ≤ 8 + 8 * n := by rw [hr]; exact wr_r hn
    have hb : eq16 (zrow 0 16 (wX re r) bl) (wX (zis (wS (aesE rk R) n) M k) r) := eq16_t eq16_row (wX_c hs' hr1 (by omega))
    obtain ⟨b2, o2, e2, g2⟩ := p_X10_seal (bx := bx) o (eq16_u hb (wX_u uk hr1 (by omega))) hbx hk h1 hR
    have g2' : eq16 b2 (aesE rk R (wX (zis (wS (aesE rk R) n) M k) r)) := eq16_t g2 (cE _ _ hb)
    refine ⟨(b2, o2, zrow r 8 (fun i => b2 (8 + i)) (zrow 0 8 (fun i => b2 i ^^^ (if i = 7 then nI (k + 1) else 0)) re)), ?_, ?_⟩
    · show eqN (8 + 8 * n) (zrow r 8 (fun i => b2 (8 + i)) (zrow 0 8 (fun i => b2 i ^^^ (if i = 7 then nI (k + 1) else 0)) re)) (wS (aesE rk R) n k (zis (wS (aesE rk R) n) M k))
      rw [wS_def, ← hr]
      exact eqN_row (eqN_row hs' (fun i hi => by rw [g2' _ (by omega)])) (fun i hi => g2' _ (by omega))
    · simp only [b_X10_wrap_353]
      rw [zM, if_neg (nI_nlt (by omega) (by omega)), zk_T (nI_ne0 (n := n) hn (by omega)), show nI (k + 1) - (1 : Int32) = nI k from nI_pred k, nI_mod (by omega) hn (by omega), zM, zA2, ← hr, znE, zjE, l_wrap379 _ _ _ (by omega) (by omega), e2]
      simp only [zbE]
      rw [zjE, l_wrap436 _ _ _ (by omega) (by omega), nI_1]
/-! in the class -/
theorem lB_t {t : Nat} (ht : t < 256) {j : Nat} (hj : j < 8) : lB (nI t).toInt64 j = if j = 7 then nI t else 0 := by
  refine b_ext (fun i hi => ?_)
  rw [bt_lB hj _ hi]
  by_cases h8 : i < 8
  · rw [decide_eq_true h8, Bool.true_and, bl_u (nI_u ht) (by omega)]
    by_cases h7 : j = 7
    · rw [if_pos h7, h7, show 56 - 8 * 7 + i = i by omega, decide_eq_true h8, Bool.true_and]
    · rw [if_neg h7, decide_eq_false (by omega), Bool.false_and, b_0]
  · rw [decide_eq_false h8, Bool.false_and]
    by_cases h7 : j = 7
    · rw [if_pos h7, btU (nI_u ht) (by omega)]
    · rw [if_neg h7, b_0]
/-- the row of the class and its register, over one row -/
def wR (n : Nat) (bl c M : Rw) : Prop := (∀ j, j < 8 → bl j = sB (M j)) ∧ ∀ j, 8 ≤ j → j < 8 + 8 * n → c j = sB (M j)
theorem wR_in {n r : Nat} {bl c M : Rw} (h : wR n bl c M) (hr : 8 ≤ r) (h2 : r + 8 ≤ 8 + 8 * n) : RB 16 (zrow 8 8 (fun t => c (r + t)) bl) (wX M r) := by
  intro j hj
  unfold wX
  by_cases h8 : j < 8
  · rw [if_pos h8, zrow_out (by omega)]
    exact h.1 j h8
  · rw [if_neg h8, zrow_in (by omega) (by omega), h.2 _ (by omega) (by omega), show r + (j - 8) = r + j - 8 by omega]
set_option maxHeartbeats 8000000 in
theorem p_X4_wrapIn {N n R : Nat} {keys rk c M : Rw} (bl : Rw) (hn : 0 < n) (hn9 : n ≤ 9) (hN : 8 + 8 * n ≤ N) (hN2 : N ≤ 1500) (h0 : ∀ j, j < 8 → M j = 166) (hc : ∀ j, 8 ≤ j → j < 8 + 8 * n → c j = sB (M j)) (u : isU8 M (8 + 8 * n)) (h1 : 1 ≤ R) (hR : R ≤ 14) (hk : ∀ t, t < 16 * (R + 1) → kB keys t = rk t) (uk : isU8 rk (16 * (R + 1))) :
    ∃ bl' c', f_X4_wrapIn N (nI (8 + 8 * n)) (nI R) keys bl c = some (bl', c') ∧ ∀ j, j < 8 + 8 * n → c' j = sB (zis (wS (aesE rk R) n) M (6 * n) j) := by
  have enc : ∀ x y, RB 16 x y → isU8 y 16 → f_X0_encrypt 16 (0 : Int32) (nI R) keys x = some (zrow 0 16 (fun j => sB (aesE rk R y j)) x) := fun x y hx hy => c_enc0 hx hy h1 hR hk
  have uE0 : ∀ s, isU8 s 16 → isU8 (aesE rk R s) 16 := fun s hs => aesE_u hs h1 uk
  obtain ⟨E, hE⟩ : ∃ E, E = aesE rk R := ⟨_, rfl⟩
  rw [← hE] at enc uE0 ⊢
  have w1 : ∀ v f, f_X9_putLong 16 (0 : Int32) v f = some (zrow 0 8 (fun j => sB (lB v j)) f) := fun v f => p_X9_putLong (N := 16) (a := 0) v f (by omega) (by omega)
  have uS : ∀ k, k ≤ 6 * n → isU8 (zis (wS E n) M k) (8 + 8 * n) := fun k hk => zis_u (fun k s hk => wS_u uE0 hn (show k < 255 by omega)) u k hk
  unfold f_X4_wrapIn
  rw [w1, zbE, zjE]
  have a6 : ∀ j, j < 8 → lB (-6438275382588823898 : Int64) j = 166 := by decide +kernel
  refine zl_up (F := b_X4_wrapIn_16 N (nI (8 + 8 * n)) (nI R) keys _) (fun ρ (s : Rw × Rw) => (nI (n * ρ), nI ρ, s.1, s.2)) (fun ρ s => wR n s.1 s.2 (zis (wS E n) M (n * ρ))) 0 6 (zrow 0 8 (fun j => sB (lB (-6438275382588823898 : Int64) j)) bl, c) (fun o => ∃ bl' c', o = some (bl', c') ∧ ∀ j, j < 8 + 8 * n → c' j = sB (zis (wS E n) M (6 * n) j)) (by omega) (by omega) ?_ ?_ ?_
  · refine ⟨fun j hj => ?_, hc⟩
    show zrow 0 8 (fun j => sB (lB (-6438275382588823898 : Int64) j)) bl j = sB (M j)
    rw [zrow_0 hj, a6 j hj, h0 j hj]
  · intro self s hs
    obtain ⟨bl, c⟩ := s
    simp only [b_X4_wrapIn_16]
    rw [if_pos (by decide)]
    rw [show n * 6 = 6 * n by omega] at hs
    have hs : wR n bl c (zis (wS E n) M (6 * n)) := hs
    simp (disch := omega) only [zCl, zClk, znE]
    rw [zk_T ⟨by decide, by decide, by decide, by omega, by omega, fun j hj => by rw [Nat.zero_add, hs.1 j (by omega)]; exact RB_fit (n := 1) (m := fun _ => zis (wS E n) M (6 * n) j) (fun _ _ => rfl) (j := 0) (by omega)⟩, cpE]
    refine ⟨_, _, rfl, fun j hj => ?_⟩
    by_cases h8 : j < 8
    · rw [zrow_0 h8, Nat.zero_add]
      exact hs.1 j h8
    · rw [zrow_out (by omega)]
      exact hs.2 j (by omega) hj
  · intro self ρ s _ hρ hs
    obtain ⟨bl, c⟩ := s
    have hs0 : wR n bl c (zis (wS E n) M (n * ρ)) := hs
    have hρn : n * ρ + n ≤ 6 * n := by
      have := Nat.mul_le_mul_left n (show ρ + 1 ≤ 6 by omega)
      rw [Nat.mul_succ] at this
      omega
    simp only [b_X4_wrapIn_16]
    rw [if_neg (show ¬ (6 : Int32) ≤ nI ρ from nI_ge (b := 6) hρ (by omega)), zjE]
    refine zl_up (F := b_X4_wrapIn_27 N (nI (8 + 8 * n)) (nI R) keys _) (fun j (s : Rw × Rw) => (nI (n * ρ + j), nI (8 + 8 * j), s.1, s.2)) (fun j s => wR n s.1 s.2 (zis (wS E n) M (n * ρ + j))) 0 n (bl, c) (fun q => ∃ s' : Rw × Rw, wR n s'.1 s'.2 (zis (wS E n) M (n * (ρ + 1))) ∧ q = self (nI (n * (ρ + 1)), nI (ρ + 1), s'.1, s'.2)) (by omega) (by omega) hs0 ?_ ?_
    · intro self2 s hs
      obtain ⟨bl, c⟩ := s
      simp only [b_X4_wrapIn_27]
      rw [if_pos (nI_le (Nat.le_refl _) (by omega)), nI_1]
      exact ⟨(bl, c), hs, rfl⟩
    · intro self2 j s _ hj hs
      obtain ⟨bl, c⟩ := s
      have hs' : wR n bl c (zis (wS E n) M (n * ρ + j)) := hs
      obtain ⟨k, hk3⟩ : ∃ k, k = n * ρ + j := ⟨_, rfl⟩
      have hkn : k % n = j := by rw [hk3, Nat.mul_add_mod, Nat.mod_eq_of_lt hj]
      rw [← hk3] at hs' ⊢
      rw [show n * ρ + (j + 1) = k + 1 by omega]
      obtain ⟨Mk, hMk⟩ : ∃ q, q = zis (wS E n) M k := ⟨_, rfl⟩
      have uk2 : isU8 Mk (8 + 8 * n) := by rw [hMk]; exact uS k (by omega)
      rw [← hMk] at hs'
      have hin := wR_in hs' (r := 8 + 8 * j) (by omega) (by omega)
      have uX : isU8 (wX Mk (8 + 8 * j)) 16 := wX_u uk2 (by omega) (by omega)
      obtain ⟨X, hX⟩ : ∃ X, X = E (wX Mk (8 + 8 * j)) := ⟨_, rfl⟩
      have uXX : isU8 X 16 := by rw [hX]; exact uE0 _ uX
      have e2 := enc _ _ hin uX
      rw [← hX] at e2
      obtain ⟨b25, hb25⟩ : ∃ q, q = zrow 0 16 (fun j => sB (X j)) (zrow 8 8 (fun t => c (8 + 8 * j + t)) bl) := ⟨_, rfl⟩
      have r25 : RB 16 b25 X := by rw [hb25]; exact zrow_RB
      rw [← hb25] at e2
      have e3 : f_X9_longAt 16 (0 : Int32) b25 = some (L8 X) := (p_X9_longAt (N := 16) (a := 0) b25 (by omega) (by omega)).trans (congrArg some (L8_c (fun j hj => by rw [Nat.zero_add]; exact RB_u r25 uXX (by omega))))
      have lx : ∀ i, i < 8 → lB (L8 X ^^^ (nI (k + 1)).toInt64) i = X i ^^^ (if i = 7 then nI (k + 1) else 0) := fun i hi => by
        rw [lB_xor _ _ hi, lB_L8 (fun i hi => uXX i (by omega)) hi, lB_t (by omega) hi]
      obtain ⟨b27, hb27⟩ : ∃ q, q = zrow 0 8 (fun j => sB (lB (L8 X ^^^ (nI (k + 1)).toInt64) j)) b25 := ⟨_, rfl⟩
      have eS : zis (wS E n) M (k + 1) = zrow (8 + 8 * j) 8 (fun i => X (8 + i)) (zrow 0 8 (fun i => X i ^^^ (if i = 7 then nI (k + 1) else 0)) Mk) := by
        show wS E n k (zis (wS E n) M k) = _
        rw [wS_def, ← hMk, hkn, ← hX]
      refine ⟨(b27, zrow (8 + 8 * j) 8 (fun t => b27 (8 + t)) c), ?_, ?_⟩
      · show wR n b27 (zrow (8 + 8 * j) 8 (fun t => b27 (8 + t)) c) (zis (wS E n) M (k + 1))
        rw [eS]
        refine ⟨fun i hi => ?_, fun i hi hi2 => ?_⟩
        · rw [zrow_out (a := 8 + 8 * j) (by omega), zrow_0 hi, hb27, zrow_0 hi, lx i hi]
        · by_cases hr : 8 + 8 * j ≤ i ∧ i < 8 + 8 * j + 8
          · rw [zrow_in hr.1 hr.2, zrow_in hr.1 hr.2, hb27, zrow_out (by omega), r25 _ (by omega)]
          · rw [zrow_out (by omega), zrow_out (a := 8 + 8 * j) (by omega), zrow_out (by omega)]
            exact hs'.2 i hi hi2
      · simp only [b_X4_wrapIn_27]
        rw [if_neg (nI_ge (by omega) (by omega))]
        simp (disch := omega) only [zCl, zClk, znE, nI_1]
        rw [zk_T ⟨nI_pos (by omega), by decide, by decide, by omega, by omega, fun i hi => by rw [hs'.2 _ (by omega) (by omega)]; exact RB_fit (n := 1) (m := fun _ => Mk (8 + 8 * j + i)) (fun _ _ => rfl) (j := 0) (by omega)⟩, cpE, e2, zbE, e3, zbE, w1, zbE, ← hb27]
        rw [zk_T ⟨by decide, nI_pos (by omega), by decide, by omega, by omega, fun i hi => by rw [hb27, zrow_out (by omega)]; exact RB_fit r25 (by omega)⟩, cpE, zA]
        rfl
