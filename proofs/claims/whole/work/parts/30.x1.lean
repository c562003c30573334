/-! digests and codes counted out -/
def eNn {α : Type} (b : Rw) (K : Rw → α) : Nat → Nat → Rw → α
  | 0, _, h => K h
  | m + 1, k, h => evC (shW4 (fun t => b (64 * k + t))) h (fun h' => fN (fun k' => eNn b K m k' h') (k + 1))
theorem eNn_eq {α : Type} (b : Rw) (K : Rw → α) : ∀ m k h, (∀ j, j < 8 → h j = shN b k j) → ∃ t, eNn b K m k h = K t ∧ ∀ j, j < 8 → t j = shN b (k + m) j
  | 0, k, h, hh => ⟨h, rfl, hh⟩
  | m + 1, k, h, hh => by
    obtain ⟨t, e, g⟩ := evC_eq (shW4 (fun t => b (64 * k + t))) h (fun h' => fN (fun k' => eNn b K m k' h') (k + 1))
    have g' : ∀ j, j < 8 → t j = shN b (k + 1) j := fun j hj => (g j hj).trans (shC_congr (fun _ _ => rfl) hh j hj)
    obtain ⟨t2, e2, g2⟩ := eNn_eq b K m (k + 1) t g'
    refine ⟨t2, ?_, by rw [show k + (m + 1) = k + 1 + m by omega]; exact g2⟩
    show evC (shW4 (fun t => b (64 * k + t))) h (fun h' => fN (fun k' => eNn b K m k' h') (k + 1)) = _
    rw [e, fN_eq, e2]
def evS {α : Type} (b : Rw) (n : Nat) (K : Rw → α) : α := eNn (shPad b n) (fun h => fR (shDB h) (fun L => K (lR L)) 32 []) ((n + 8) / 64 + 1) 0 (fun j => tb_BEGINNING.getD j 0)
theorem evS_eq {α : Type} (b : Rw) (n : Nat) (K : Rw → α) : ∃ t, evS b n K = K t ∧ eqN 32 t (shD b n) := by
  obtain ⟨t, e, g⟩ := eNn_eq (shPad b n) (fun h => fR (shDB h) (fun L => K (lR L)) 32 []) ((n + 8) / 64 + 1) 0 (fun j => tb_BEGINNING.getD j 0) (fun _ _ => rfl)
  refine ⟨_, e.trans (fR_eq _ _ _ _), fun j hj => ?_⟩
  rw [tbl_eq _ hj]
  rw [Nat.zero_add] at g
  exact shDB_congr g hj
def evM {α : Type} (len : Nat) (kk d : Rw) (n : Nat) (K : Rw → α) : α := evS (hmI len kk d 54) (64 + n) (fun t => evS (hmI len kk t 92) 96 K)
theorem evM_eq {α : Type} (len : Nat) (kk d : Rw) (n : Nat) (K : Rw → α) : ∃ t, evM len kk d n K = K t ∧ eqN 32 t (hmac len kk d n) := by
  obtain ⟨t, e, g⟩ := evS_eq (hmI len kk d 54) (64 + n) (fun t => evS (hmI len kk t 92) 96 K)
  obtain ⟨t2, e2, g2⟩ := evS_eq (hmI len kk t 92) 96 K
  refine ⟨t2, e.trans e2, fun j hj => ?_⟩
  rw [g2 j hj]
  exact shD_congr (fun q hq => hmI_congr (n := 32) (fun _ _ => rfl) (fun r hr => g r hr) (by omega)) j hj
def ck (t u : Rw) : Nat → Bool
  | 0 => true
  | n + 1 => if t n = u n then ck t u n else false
theorem ck_eq {t u : Rw} : ∀ {n}, ck t u n = true → eqN n t u
  | 0, _ => fun j hj => by omega
  | n + 1, h => by
    have h' : (if t n = u n then ck t u n else false) = true := h
    by_cases q : t n = u n
    · rw [if_pos q] at h'
      intro j hj
      by_cases e : j = n
      · rw [e]; exact q
      · exact ck_eq h' j (by omega)
    · rw [if_neg q] at h'
      exact absurd h' (by decide)
theorem v_shD {b : Rw} {n : Nat} {L : List Int32} (h : evS b n (fun t => ck t (lR L) 32) = true) : eqN 32 (shD b n) (lR L) := by
  obtain ⟨t, e, g⟩ := evS_eq b n (fun t => ck t (lR L) 32)
  rw [e] at h
  intro j hj
  rw [← g j hj]
  exact ck_eq h j hj
theorem v_hmac {len : Nat} {kk d : Rw} {n : Nat} {L : List Int32} (h : evM len kk d n (fun t => ck t (lR L) 32) = true) : eqN 32 (hmac len kk d n) (lR L) := by
  obtain ⟨t, e, g⟩ := evM_eq len kk d n (fun t => ck t (lR L) 32)
  rw [e] at h
  intro j hj
  rw [← g j hj]
  exact ck_eq h j hj
theorem v_aesE {rk s : Rw} {R : Nat} {L : List Int32} (hR : 1 ≤ R) (h : evE rk R s (fun t => ck t (lR L) 16) = true) : eq16 (aesE rk R s) (lR L) := by
  obtain ⟨t, e, g⟩ := evE_eq rk hR s (fun t => ck t (lR L) 16)
  rw [e] at h
  intro j hj
  rw [← g j hj]
  exact ck_eq h j hj
theorem v_aesD {rk s : Rw} {R : Nat} {L : List Int32} (h : evD rk R s (fun t => ck t (lR L) 16) = true) : eq16 (aesD rk R s) (lR L) := by
  obtain ⟨t, e, g⟩ := evD_eq rk R s (fun t => ck t (lR L) 16)
  rw [e] at h
  intro j hj
  rw [← g j hj]
  exact ck_eq h j hj
theorem t_sha0 : eqN 32 (shD (lR [97, 98, 99]) 3) (lR [186, 120, 22, 191, 143, 1, 207, 234, 65, 65, 64, 222, 93, 174, 34, 35, 176, 3, 97, 163, 150, 23, 122, 156, 180, 16, 255, 97, 242, 0, 21, 173]) := v_shD (by decide +kernel)
theorem t_sha1 : eqN 32 (shD (lR [96, 98, 99]) 3) (lR [137, 249, 0, 57, 14, 20, 211, 124, 64, 92, 117, 36, 79, 176, 134, 170, 53, 181, 76, 15, 182, 236, 54, 56, 193, 194, 20, 81, 212, 116, 61, 17]) := v_shD (by decide +kernel)
