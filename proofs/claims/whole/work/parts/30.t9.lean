/-! key unwrapping -/
def wY (M : Rw) (r t : Nat) : Rw := fun i => if i < 8 then M i ^^^ (if i = 7 then nI t else 0) else M (r + i - 8)
def wU (D : Rw → Rw) (n t : Nat) (M : Rw) : Rw := zrow (8 + 8 * ((t - 1) % n)) 8 (fun i => D (wY M (8 + 8 * ((t - 1) % n)) t) (8 + i)) (zrow 0 8 (D (wY M (8 + 8 * ((t - 1) % n)) t)) M)
theorem wU_def (D : Rw → Rw) (n t : Nat) (M : Rw) : wU D n t M = zrow (8 + 8 * ((t - 1) % n)) 8 (fun i => D (wY M (8 + 8 * ((t - 1) % n)) t) (8 + i)) (zrow 0 8 (D (wY M (8 + 8 * ((t - 1) % n)) t)) M) := rfl
theorem wY_u {M : Rw} {r N t : Nat} (u : isU8 M N) (h : r + 8 ≤ N) (hr : 8 ≤ r) (ht : t < 256) : isU8 (wY M r t) 16 := by
  intro i hi
  unfold wY
  by_cases h8 : i < 8
  · rw [if_pos h8]; exact xorU (u i (by omega)) (t7_u ht i)
  · rw [if_neg h8]; exact u _ (by omega)
theorem wY_c {M M' : Rw} {r N t : Nat} (u : eqN N M M') (h : r + 8 ≤ N) (hr : 8 ≤ r) : eq16 (wY M r t) (wY M' r t) := by
  intro i hi
  unfold wY
  by_cases h8 : i < 8
  · rw [if_pos h8, if_pos h8, u i (by omega)]
  · rw [if_neg h8, if_neg h8]; exact u _ (by omega)
theorem wU_u {D : Rw → Rw} (hD : ∀ s, isU8 s 16 → isU8 (D s) 16) {n t : Nat} {M : Rw} (hn : 0 < n) (ht : t < 256) (u : isU8 M (8 + 8 * n)) : isU8 (wU D n t M) (8 + 8 * n) := by
  have h1 := hD _ (wY_u u (wr_r (k := t - 1) hn) (by omega) ht)
  exact U_row (U_row u (fun i hi => h1 i (by omega))) (fun i hi => h1 _ (by omega))
/-- the rows behind q steps -/
def wV (D : Rw → Rw) (n : Nat) (M : Rw) (q : Nat) : Rw := zis (fun q => wU D n (6 * n - q)) M q
theorem wV_u {D : Rw → Rw} (hD : ∀ s, isU8 s 16 → isU8 (D s) 16) {n : Nat} {M : Rw} (hn : 0 < n) (hn9 : n ≤ 9) (u : isU8 M (8 + 8 * n)) : ∀ q, isU8 (wV D n M q) (8 + 8 * n)
  | 0 => u
  | q + 1 => wU_u hD hn (by omega) (wV_u hD hn hn9 u q)
theorem l_unwrap232 {x t : Nat} (re bl : Rw) (K : Rw → Option _) (hx : 8 ≤ x) (h : x + 8 ≤ 600) : zl (b_X10_unwrap_232 (nI t) re (nI x) K) zF ((0 : Int32), bl) = K (zrow 0 16 (wY re x t) bl) := by
  refine zl_cpy (F := b_X10_unwrap_232 (nI t) re (nI x) K) 0 16 (wY re x t) bl K (by omega) ?_ ?_
  · intro self f
    simp only [b_X10_unwrap_232]
    exact if_pos (by decide)
  · intro self i f hi
    unfold wY
    by_cases h8 : i < 8
    · by_cases h7 : i = 7
      · simp (disch := omega) only [b_X10_unwrap_232, zle1, zeq1, if_neg, if_pos, zCl, zki, zki2, znE, zA, Nat.zero_add, zlt2]
      · simp (disch := omega) only [b_X10_unwrap_232, zle1, zeq1, if_neg, if_pos, zCl, zki, zki2, znE, zA, Nat.zero_add, zlt2]
    · simp (disch := omega) only [b_X10_unwrap_232, zle1, zeq1, if_neg, if_pos, nI_add, zS, zCl, zki, zki2, znE, zA, Nat.zero_add, zlt2]
set_option maxHeartbeats 4000000 in
theorem l_unwrap303 {x : Nat} (bl re : Rw) (K : Rw → Option _) (hx : 8 ≤ x) (h : x + 8 ≤ 600) : zl (b_X10_unwrap_303 (nI x) bl K) zF ((0 : Int32), re) = K (zrow x 8 (fun i => bl (8 + i)) (zrow 0 8 bl re)) := by
  refine zl_up (F := b_X10_unwrap_303 (nI x) bl K) (fun i (f : Rw) => (nI i, f)) (fun i f => f = zrow x i (fun i => bl (8 + i)) (zrow 0 i bl re)) 0 8 re (fun q => q = K (zrow x 8 (fun i => bl (8 + i)) (zrow 0 8 bl re))) (by omega) (by omega) (by rw [zrow_n0, zrow_n0]) ?_ ?_
  · intro self f hf
    simp only [b_X10_unwrap_303]
    rw [hf]
    exact if_pos (by decide)
  · intro self i f _ hi hf
    refine ⟨_, (upd2_row (x := x) (i := i) (g := fun i => bl (8 + i)) (h := bl) (f := re) (by omega)), ?_⟩
    rw [← hf]
    simp (disch := omega) only [b_X10_unwrap_303, zle1, if_neg, if_pos, nI_add, zA2, zCl, zki, zki2, znE, zjE, zA, zlt2]
set_option maxHeartbeats 4000000 in
theorem l_unwrap209 {n R : Nat} {bk rk re M : Rw} (bl o : Rw) (K : Rw → Rw → Rw → Option _) (P : Option _ → Prop) (hn : 0 < n) (hn9 : n ≤ 9) (hM : eqN (8 + 8 * n) re M) (u : isU8 M (8 + 8 * n)) (hbk : ∀ k, k < 256 → bk k = tb_BOX_BACK.getD k 0) (hk : isU8 rk (16 * (R + 1))) (h1 : 1 ≤ R) (hR : R ≤ 14)
    (hK : ∀ bl o re, eqN (8 + 8 * n) re (wV (aesD rk R) n M (6 * n)) → P (K bl o re)) : P (zl (b_X10_unwrap_209 bk (nI n) (nI R) rk K) zF (nI (6 * n), bl, o, re)) := by
  have uD : ∀ s, isU8 s 16 → isU8 (aesD rk R s) 16 := fun s hs => aesD_u hs hk
  have cD : ∀ s t, eq16 s t → eq16 (aesD rk R s) (aesD rk R t) := fun s t hs => aesD_c hs (fun _ _ => rfl)
  refine zl_up (F := b_X10_unwrap_209 bk (nI n) (nI R) rk K) (fun q (s : Rw × Rw × Rw) => (nI (6 * n - q), s.1, s.2.1, s.2.2)) (fun q s => eqN (8 + 8 * n) s.2.2 (wV (aesD rk R) n M q)) 0 (6 * n) (bl, o, re) P (by omega) (by omega) hM ?_ ?_
  · intro self s hs
    obtain ⟨bl, o, re⟩ := s
    simp only [b_X10_unwrap_209]
    rw [Nat.sub_self, if_pos (by decide)]
    exact hK _ _ _ hs
  · intro self q s _ hq hs
    obtain ⟨bl, o, re⟩ := s
    have hs' : eqN (8 + 8 * n) re (wV (aesD rk R) n M q) := hs
    have uq := wV_u uD hn hn9 u q
    obtain ⟨t, ht⟩ : ∃ t, t = 6 * n - q := ⟨_, rfl⟩
    obtain ⟨r, hr⟩ : ∃ r, r = 8 + 8 * ((t - 1) % n) := ⟨_, rfl⟩
    have hr1 : r + 8 ≤ 8 + 8 * n := by rw [hr]; exact wr_r hn
    have hb : eq16 (zrow 0 16 (wY re r t) bl) (wY (wV (aesD rk R) n M q) r t) := eq16_t eq16_row (wY_c hs' hr1 (by omega))
    obtain ⟨b2, o2, e2, g2⟩ := p_X10_unseal (bk := bk) o (eq16_u hb (wY_u uq hr1 (by omega) (by omega))) hbk hk h1 hR
    have g2' : eq16 b2 (aesD rk R (wY (wV (aesD rk R) n M q) r t)) := eq16_t g2 (cD _ _ hb)
    refine ⟨(b2, o2, zrow r 8 (fun i => b2 (8 + i)) (zrow 0 8 b2 re)), ?_, ?_⟩
    · show eqN (8 + 8 * n) (zrow r 8 (fun i => b2 (8 + i)) (zrow 0 8 b2 re)) (wU (aesD rk R) n (6 * n - q) (wV (aesD rk R) n M q))
      rw [wU_def, ← ht, ← hr]
      exact eqN_row (eqN_row hs' (fun i hi => g2' i (by omega))) (fun i hi => g2' _ (by omega))
    · simp only [b_X10_unwrap_209]
      rw [← ht, if_neg (nI_nle (by omega) (by omega)), zk_T (nI_ne0 (n := n) hn (by omega)), zS (by omega), nI_mod (by omega) hn (by omega), zM, zA2, ← hr, znE, zjE, l_unwrap232 _ _ _ (by omega) (by omega), e2]
      simp only [zbE]
      rw [zjE, l_unwrap303 _ _ _ (by omega) (by omega), zM1 (by omega), show t - 1 = 6 * n - (q + 1) by omega]
theorem zM8 {m : Nat} (h : 8 ≤ m) : nI m + (-8 : Int32) = nI (m - 8) := by
  obtain ⟨q, rfl⟩ : ∃ q, m = q + 8 := ⟨m - 8, by omega⟩
  rw [Nat.add_sub_cancel, ← nI_add q 8, Int32.add_assoc]
  rw [show nI 8 + (-8 : Int32) = 0 by decide, Int32.add_zero]
set_option maxHeartbeats 8000000 in
theorem p_X4_wrapOut {N n R : Nat} {keys rk c M : Rw} (bl : Rw) (hn : 0 < n) (hn9 : n ≤ 9) (hN : 8 + 8 * n ≤ N) (hN2 : N ≤ 1500) (hc : RB (8 + 8 * n) c M) (u : isU8 M (8 + 8 * n)) (h1 : 1 ≤ R) (hR : R ≤ 14) (hk : ∀ t, t < 16 * (R + 1) → kB keys t = rk t) (uk : isU8 rk (16 * (R + 1))) :
    ∃ r bl' c', f_X4_wrapOut N (nI (8 + 8 * n)) (nI R) keys bl c = some (r, bl', c') ∧ (∀ j, 8 ≤ j → j < 8 + 8 * n → c' j = sB (wV (aesD rk R) n M (6 * n) j)) ∧ ((r = 1 ∧ ∀ i, i < 8 → wV (aesD rk R) n M (6 * n) i = 166) ∨ (r = 0 ∧ ¬ ∀ i, i < 8 → wV (aesD rk R) n M (6 * n) i = 166)) := by
  have dec : ∀ x y, RB 16 x y → isU8 y 16 → f_X0_decrypt 16 (0 : Int32) (nI R) keys x = some (zrow 0 16 (fun j => sB (aesD rk R y j)) x) := fun x y hx hy => c_dec0 hx hy h1 hR hk
  have uD : ∀ s, isU8 s 16 → isU8 (aesD rk R s) 16 := fun s hs => aesD_u hs uk
  obtain ⟨D, hD⟩ : ∃ D, D = aesD rk R := ⟨_, rfl⟩
  rw [← hD] at dec uD ⊢
  have w1 : ∀ v f, f_X9_putLong 16 (0 : Int32) v f = some (zrow 0 8 (fun j => sB (lB v j)) f) := fun v f => p_X9_putLong (N := 16) (a := 0) v f (by omega) (by omega)
  have la : ∀ (b s : Rw), (∀ j, j < 8 → b j = sB (s j)) → isU8 s 8 → f_X9_longAt 16 (0 : Int32) b = some (L8 s) := fun b s hb hu => (p_X9_longAt (N := 16) (a := 0) b (by omega) (by omega)).trans (congrArg some (L8_c (fun j hj => by rw [Nat.zero_add]; exact RB_u (n := 8) hb hu hj)))
  have uV := wV_u uD hn hn9 u
  have a6 : ∀ j, j < 8 → lB (-6438275382588823898 : Int64) j = 166 := by decide +kernel
  have a6L : L8 (fun _ => (166 : Int32)) = -6438275382588823898 := by decide +kernel
  unfold f_X4_wrapOut
  simp (disch := omega) only [zCl, zClk, znE]
  rw [zk_T ⟨by decide, by decide, by decide, by omega, by omega, fun j hj => by rw [Nat.zero_add]; exact RB_fit hc (by omega)⟩, cpE, zkn (by decide) (by decide), zDv (by omega) (by decide) (by decide), show (8 + 8 * n) / 8 = n + 1 by omega, show nI (n + 1) - (1 : Int32) = nI n from nI_pred n, zM, zjE]
  refine zl_up (F := b_X4_wrapOut_25 N (nI (8 + 8 * n)) (nI R) keys _) (fun ρ (s : Rw × Rw) => (nI (6 * n - n * ρ), nI ρ, s.1, s.2)) (fun ρ s => wR n s.1 s.2 (wV D n M (n * ρ))) 0 6 (zrow 0 8 (fun t => c (0 + t)) bl, c) (fun o => ∃ r bl' c', o = some (r, bl', c') ∧ (∀ j, 8 ≤ j → j < 8 + 8 * n → c' j = sB (wV D n M (6 * n) j)) ∧ ((r = 1 ∧ ∀ i, i < 8 → wV D n M (6 * n) i = 166) ∨ (r = 0 ∧ ¬ ∀ i, i < 8 → wV D n M (6 * n) i = 166))) (by omega) (by omega) ?_ ?_ ?_
  · refine ⟨fun j hj => ?_, fun j _ hj => hc j hj⟩
    show zrow 0 8 (fun t => c (0 + t)) bl j = sB (M j)
    rw [zrow_0 hj, Nat.zero_add]
    exact hc j (by omega)
  · intro self s hs
    obtain ⟨bl, c⟩ := s
    simp only [b_X4_wrapOut_25]
    rw [if_pos (by decide)]
    rw [show n * 6 = 6 * n by omega] at hs
    have hs : wR n bl c (wV D n M (6 * n)) := hs
    have um : isU8 (wV D n M (6 * n)) 8 := fun j hj => uV (6 * n) j (by omega)
    rw [la bl _ hs.1 um, zbE]
    by_cases hq : ∀ i, i < 8 → wV D n M (6 * n) i = 166
    · rw [if_pos ((lg0 _ _).mpr (by rw [← a6L]; exact L8_c hq))]
      exact ⟨_, _, _, rfl, hs.2, Or.inl ⟨rfl, hq⟩⟩
    · rw [if_neg (fun q => hq (L8_inj (n := fun _ => 166) um (fun _ _ => (by decide : (166 : Int32) &&& 255 = 166)) (by rw [a6L]; exact (lg0 _ _).mp q)))]
      exact ⟨_, _, _, rfl, hs.2, Or.inr ⟨rfl, hq⟩⟩
  · intro self ρ s _ hρ hs
    obtain ⟨bl, c⟩ := s
    have hs0 : wR n bl c (wV D n M (n * ρ)) := hs
    have hρn : n * ρ + n ≤ 6 * n := by
      have := Nat.mul_le_mul_left n (show ρ + 1 ≤ 6 by omega)
      rw [Nat.mul_succ] at this
      omega
    simp only [b_X4_wrapOut_25]
    rw [if_neg (show ¬ (6 : Int32) ≤ nI ρ from nI_ge (b := 6) hρ (by omega)), zS (by omega), znE, zjE, show 8 + 8 * n - 8 = 8 * (n - 0) by omega, show 6 * n - n * ρ = 6 * n - (n * ρ + 0) by omega]
    refine zl_up (F := b_X4_wrapOut_38 N (nI R) keys _) (fun p (s : Rw × Rw) => (nI (6 * n - (n * ρ + p)), nI (8 * (n - p)), s.1, s.2)) (fun p s => wR n s.1 s.2 (wV D n M (n * ρ + p))) 0 n (bl, c) (fun q => ∃ s' : Rw × Rw, wR n s'.1 s'.2 (wV D n M (n * (ρ + 1))) ∧ q = self (nI (6 * n - n * (ρ + 1)), nI (ρ + 1), s'.1, s'.2)) (by omega) (by omega) hs0 ?_ ?_
    · intro self2 s hs
      obtain ⟨bl, c⟩ := s
      simp only [b_X4_wrapOut_38]
      rw [Nat.sub_self, if_pos (by decide), nI_1]
      exact ⟨(bl, c), hs, rfl⟩
    · intro self2 p s _ hp hs
      obtain ⟨bl, c⟩ := s
      have hs' : wR n bl c (wV D n M (n * ρ + p)) := hs
      obtain ⟨q, hq⟩ : ∃ q, q = n * ρ + p := ⟨_, rfl⟩
      rw [← hq] at hs' ⊢
      rw [show n * ρ + (p + 1) = q + 1 by omega]
      obtain ⟨t, ht⟩ : ∃ t, t = 6 * n - q := ⟨_, rfl⟩
      obtain ⟨r, hr⟩ : ∃ r, r = 8 * (n - p) := ⟨_, rfl⟩
      have hmod : 8 + 8 * ((t - 1) % n) = r := by
        have e1 : t - 1 = n * (5 - ρ) + (n - 1 - p) := by
          have e2 : n * (5 - ρ) + n * (ρ + 1) = n * 6 := by rw [← Nat.mul_add]; congr 1; omega
          rw [Nat.mul_succ] at e2
          omega
        rw [e1, Nat.mul_add_mod, Nat.mod_eq_of_lt (by omega), hr]
        omega
      obtain ⟨Mq, hMq⟩ : ∃ x, x = wV D n M q := ⟨_, rfl⟩
      have uq : isU8 Mq (8 + 8 * n) := by rw [hMq]; exact uV q
      rw [← hMq] at hs'
      have uY : isU8 (wY Mq r t) 16 := wY_u uq (by omega) (by omega) (by omega)
      obtain ⟨X, hX⟩ : ∃ X, X = D (wY Mq r t) := ⟨_, rfl⟩
      have lx : ∀ i, i < 8 → lB (L8 Mq ^^^ (nI t).toInt64) i = Mq i ^^^ (if i = 7 then nI t else 0) := fun i hi => by
        rw [lB_xor _ _ hi, lB_L8 (fun i hi => uq i (by omega)) hi, lB_t (by omega) hi]
      obtain ⟨b29, hb29⟩ : ∃ x, x = zrow 0 8 (fun j => sB (lB (L8 Mq ^^^ (nI t).toInt64) j)) bl := ⟨_, rfl⟩
      have r30 : RB 16 (zrow 8 8 (fun t => c (r + t)) b29) (wY Mq r t) := by
        intro j hj
        unfold wY
        by_cases h8 : j < 8
        · rw [if_pos h8, zrow_out (by omega), hb29, zrow_0 h8, lx j h8]
        · rw [if_neg h8, zrow_in (by omega) (by omega), hs'.2 _ (by omega) (by omega), show r + (j - 8) = r + j - 8 by omega]
      have e2 := dec _ _ r30 uY
      rw [← hX] at e2
      obtain ⟨b31, hb31⟩ : ∃ x, x = zrow 0 16 (fun j => sB (X j)) (zrow 8 8 (fun t => c (r + t)) b29) := ⟨_, rfl⟩
      have r31 : RB 16 b31 X := by rw [hb31]; exact zrow_RB
      rw [← hb31] at e2
      have eS : wV D n M (q + 1) = zrow r 8 (fun i => X (8 + i)) (zrow 0 8 X Mq) := by
        show wU D n (6 * n - q) (wV D n M q) = _
        rw [wU_def, ← ht, ← hMq, hmod, ← hX]
      refine ⟨(b31, zrow r 8 (fun t => b31 (8 + t)) c), ?_, ?_⟩
      · show wR n b31 (zrow r 8 (fun t => b31 (8 + t)) c) (wV D n M (q + 1))
        rw [eS]
        refine ⟨fun i hi => ?_, fun i hi hi2 => ?_⟩
        · rw [zrow_out (a := r) (by omega), zrow_0 hi, r31 i (by omega)]
        · by_cases hr2 : r ≤ i ∧ i < r + 8
          · rw [zrow_in hr2.1 hr2.2, zrow_in hr2.1 hr2.2, r31 _ (by omega)]
          · rw [zrow_out (by omega), zrow_out (a := r) (by omega), zrow_out (by omega)]
            exact hs'.2 i hi hi2
      · simp only [b_X4_wrapOut_38]
        rw [← ht, ← hr, if_neg (nI_nle (by omega) (by omega)), la bl _ hs'.1 (fun j hj => uq j (by omega)), zbE, w1, zbE, ← hb29]
        simp (disch := omega) only [zCl, zClk, znE, zM1, zM8]
        rw [zk_T ⟨nI_pos (by omega), by decide, by decide, by omega, by omega, fun i hi => by rw [hs'.2 _ (by omega) (by omega)]; exact RB_fit (n := 1) (m := fun _ => Mq (r + i)) (fun _ _ => rfl) (j := 0) (by omega)⟩, cpE, e2, zbE]
        rw [zk_T ⟨by decide, nI_pos (by omega), by decide, by omega, by omega, fun i hi => RB_fit r31 (by omega)⟩, cpE, show t - 1 = 6 * n - (q + 1) by omega, show r - 8 = 8 * (n - (p + 1)) by omega]
