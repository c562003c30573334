/-! wrapping keeps what lies behind -/
def wRk (n : Nat) (c0 bl c M : Rw) : Prop := wR n bl c M ∧ ∀ j, 8 + 8 * n ≤ j → c j = c0 j
set_option maxHeartbeats 8000000 in
theorem p_X4_wrapInK {N n R : Nat} {keys rk c M : Rw} (bl : Rw) (hn : 0 < n) (hn9 : n ≤ 9) (hN : 8 + 8 * n ≤ N) (hN2 : N ≤ 1500) (h0 : ∀ j, j < 8 → M j = 166) (hc : ∀ j, 8 ≤ j → j < 8 + 8 * n → c j = sB (M j)) (u : isU8 M (8 + 8 * n)) (h1 : 1 ≤ R) (hR : R ≤ 14) (hk : ∀ t, t < 16 * (R + 1) → kB keys t = rk t) (uk : isU8 rk (16 * (R + 1))) {c0 : Rw} (hc0 : c0 = c) :
    ∃ bl' c', f_X4_wrapIn N (nI (8 + 8 * n)) (nI R) keys bl c = some (bl', c') ∧ (∀ j, j < 8 + 8 * n → c' j = sB (zis (wS (aesE rk R) n) M (6 * n) j)) ∧ ∀ j, 8 + 8 * n ≤ j → c' j = c0 j := by
  have enc : ∀ x y, RB 16 x y → isU8 y 16 → f_X0_encrypt 16 (0 : Int32) (nI R) keys x = some (zrow 0 16 (fun j => sB (aesE rk R y j)) x) := fun x y hx hy => c_enc0 hx hy h1 hR hk
  have uE0 : ∀ s, isU8 s 16 → isU8 (aesE rk R s) 16 := fun s hs => aesE_u hs h1 uk
  obtain ⟨E, hE⟩ : ∃ E, E = aesE rk R := ⟨_, rfl⟩
  rw [← hE] at enc uE0 ⊢
  have w1 : ∀ v f, f_X9_putLong 16 (0 : Int32) v f = some (zrow 0 8 (fun j => sB (lB v j)) f) := fun v f => p_X9_putLong (N := 16) (a := 0) v f (by omega) (by omega)
  have uS : ∀ k, k ≤ 6 * n → isU8 (zis (wS E n) M k) (8 + 8 * n) := fun k hk => zis_u (fun k s hk => wS_u uE0 hn (show k < 255 by omega)) u k hk
  unfold f_X4_wrapIn
  rw [w1, zbE, zjE]
  have a6 : ∀ j, j < 8 → lB (-6438275382588823898 : Int64) j = 166 := by decide +kernel
  refine zl_up (F := b_X4_wrapIn_16 N (nI (8 + 8 * n)) (nI R) keys _) (fun ρ (s : Rw × Rw) => (nI (n * ρ), nI ρ, s.1, s.2)) (fun ρ s => wRk n c0 s.1 s.2 (zis (wS E n) M (n * ρ))) 0 6 (zrow 0 8 (fun j => sB (lB (-6438275382588823898 : Int64) j)) bl, c) (fun o => ∃ bl' c', o = some (bl', c') ∧ (∀ j, j < 8 + 8 * n → c' j = sB (zis (wS E n) M (6 * n) j)) ∧ ∀ j, 8 + 8 * n ≤ j → c' j = c0 j) (by omega) (by omega) ?_ ?_ ?_
  · rw [hc0]
    refine ⟨⟨fun j hj => ?_, hc⟩, fun j hj => rfl⟩
    show zrow 0 8 (fun j => sB (lB (-6438275382588823898 : Int64) j)) bl j = sB (M j)
    rw [zrow_0 hj, a6 j hj, h0 j hj]
  · intro self s hs
    obtain ⟨bl, c⟩ := s
    simp only [b_X4_wrapIn_16]
    rw [if_pos (by decide)]
    rw [show n * 6 = 6 * n by omega] at hs
    have hsk : wRk n c0 bl c (zis (wS E n) M (6 * n)) := hs
    have hs := hsk.1
    simp (disch := omega) only [zCl, zClk, znE]
    rw [zk_T ⟨by decide, by decide, by decide, by omega, by omega, fun j hj => by rw [Nat.zero_add, hs.1 j (by omega)]; exact RB_fit (n := 1) (m := fun _ => zis (wS E n) M (6 * n) j) (fun _ _ => rfl) (j := 0) (by omega)⟩, cpE]
    refine ⟨_, _, rfl, fun j hj => ?_, fun j hj => ?_⟩
    · by_cases h8 : j < 8
      · rw [zrow_0 h8, Nat.zero_add]
        exact hs.1 j h8
      · rw [zrow_out (by omega)]
        exact hs.2 j (by omega) hj
    · rw [zrow_out (by omega)]
      exact hsk.2 j hj
  · intro self ρ s _ hρ hs
    obtain ⟨bl, c⟩ := s
    have hs0 : wRk n c0 bl c (zis (wS E n) M (n * ρ)) := hs
    have hρn : n * ρ + n ≤ 6 * n := by
      have := Nat.mul_le_mul_left n (show ρ + 1 ≤ 6 by omega)
      rw [Nat.mul_succ] at this
      omega
    simp only [b_X4_wrapIn_16]
    rw [if_neg (show ¬ (6 : Int32) ≤ nI ρ from nI_ge (b := 6) hρ (by omega)), zjE]
    refine zl_up (F := b_X4_wrapIn_27 N (nI (8 + 8 * n)) (nI R) keys _) (fun j (s : Rw × Rw) => (nI (n * ρ + j), nI (8 + 8 * j), s.1, s.2)) (fun j s => wRk n c0 s.1 s.2 (zis (wS E n) M (n * ρ + j))) 0 n (bl, c) (fun q => ∃ s' : Rw × Rw, wRk n c0 s'.1 s'.2 (zis (wS E n) M (n * (ρ + 1))) ∧ q = self (nI (n * (ρ + 1)), nI (ρ + 1), s'.1, s'.2)) (by omega) (by omega) hs0 ?_ ?_
    · intro self2 s hs
      obtain ⟨bl, c⟩ := s
      simp only [b_X4_wrapIn_27]
      rw [if_pos (nI_le (Nat.le_refl _) (by omega)), nI_1]
      exact ⟨(bl, c), hs, rfl⟩
    · intro self2 j s _ hj hs
      obtain ⟨bl, c⟩ := s
      have hsk : wRk n c0 bl c (zis (wS E n) M (n * ρ + j)) := hs
      have hs' := hsk.1
      obtain ⟨k, hk3⟩ : ∃ k, k = n * ρ + j := ⟨_, rfl⟩
      have hkn : k % n = j := by rw [hk3, Nat.mul_add_mod, Nat.mod_eq_of_lt hj]
      rw [← hk3] at hs' ⊢
      rw [show n * ρ + (j + 1) = k + 1 by omega]
      obtain ⟨Mk, hMk⟩ : ∃ q, q = zis (wS E n) M k := ⟨_, rfl⟩
      have uk2 : isU8 Mk (8 + 8 * n) := by rw [hMk]; exact uS k (by omega)
      rw [← hMk] at hs'
      have hin := wR_in hs' (r := 8 + 8 * j) (by omega) (by omega)
      have uX : isU8 (wX Mk (8 + 8 * j)) 16 := wX_u uk2 (by omega) (by omega)
      obtain ⟨X, hX⟩ : ∃ X, X = E (wX Mk (8 + 8 * j)) := ⟨_, rfl⟩
      have uXX : isU8 X 16 := by rw [hX]; exact uE0 _ uX
      have e2 := enc _ _ hin uX
      rw [← hX] at e2
      obtain ⟨b25, hb25⟩ : ∃ q, q = zrow 0 16 (fun j => sB (X j)) (zrow 8 8 (fun t => c (8 + 8 * j + t)) bl) := ⟨_, rfl⟩
      have r25 : RB 16 b25 X := by rw [hb25]; exact zrow_RB
      rw [← hb25] at e2
      have e3 : f_X9_longAt 16 (0 : Int32) b25 = some (L8 X) := (p_X9_longAt (N := 16) (a := 0) b25 (by omega) (by omega)).trans (congrArg some (L8_c (fun j hj => by rw [Nat.zero_add]; exact RB_u r25 uXX (by omega))))
      have lx : ∀ i, i < 8 → lB (L8 X ^^^ (nI (k + 1)).toInt64) i = X i ^^^ (if i = 7 then nI (k + 1) else 0) := fun i hi => by
        rw [lB_xor _ _ hi, lB_L8 (fun i hi => uXX i (by omega)) hi, lB_t (by omega) hi]
      obtain ⟨b27, hb27⟩ : ∃ q, q = zrow 0 8 (fun j => sB (lB (L8 X ^^^ (nI (k + 1)).toInt64) j)) b25 := ⟨_, rfl⟩
      have eS : zis (wS E n) M (k + 1) = zrow (8 + 8 * j) 8 (fun i => X (8 + i)) (zrow 0 8 (fun i => X i ^^^ (if i = 7 then nI (k + 1) else 0)) Mk) := by
        show wS E n k (zis (wS E n) M k) = _
        rw [wS_def, ← hMk, hkn, ← hX]
      refine ⟨(b27, zrow (8 + 8 * j) 8 (fun t => b27 (8 + t)) c), ?_, ?_⟩
      · show wRk n c0 b27 (zrow (8 + 8 * j) 8 (fun t => b27 (8 + t)) c) (zis (wS E n) M (k + 1))
        rw [eS]
        refine ⟨⟨fun i hi => ?_, fun i hi hi2 => ?_⟩, fun i hi => ?_⟩
        · rw [zrow_out (a := 8 + 8 * j) (by omega), zrow_0 hi, hb27, zrow_0 hi, lx i hi]
        · by_cases hr : 8 + 8 * j ≤ i ∧ i < 8 + 8 * j + 8
          · rw [zrow_in hr.1 hr.2, zrow_in hr.1 hr.2, hb27, zrow_out (by omega), r25 _ (by omega)]
          · rw [zrow_out (by omega), zrow_out (a := 8 + 8 * j) (by omega), zrow_out (by omega)]
            exact hs'.2 i hi hi2
        · rw [zrow_out (by omega)]
          exact hsk.2 i hi
      · simp only [b_X4_wrapIn_27]
        rw [if_neg (nI_ge (by omega) (by omega))]
        simp (disch := omega) only [zCl, zClk, znE, nI_1]
        rw [zk_T ⟨nI_pos (by omega), by decide, by decide, by omega, by omega, fun i hi => by rw [hs'.2 _ (by omega) (by omega)]; exact RB_fit (n := 1) (m := fun _ => Mk (8 + 8 * j + i)) (fun _ _ => rfl) (j := 0) (by omega)⟩, cpE, e2, zbE, e3, zbE, w1, zbE, ← hb27]
        rw [zk_T ⟨by decide, nI_pos (by omega), by decide, by omega, by omega, fun i hi => by rw [hb27, zrow_out (by omega)]; exact RB_fit r25 (by omega)⟩, cpE, zA]
        rfl
