/-! values that the kernel counts out: forced rows -/
theorem nI_nat (x : Int32) : nI x.toBitVec.toNat = x := by
  apply Int32.toBitVec_inj.mp
  show BitVec.ofNat 32 x.toBitVec.toNat = x.toBitVec
  rw [BitVec.ofNat_toNat, BitVec.setWidth_eq]
def fN {α : Type} (k : Nat → α) : Nat → α
  | 0 => k 0
  | m + 1 => k (m + 1)
theorem fN_eq {α : Type} (k : Nat → α) (n : Nat) : fN k n = k n := by cases n <;> rfl
def fI {α : Type} (x : Int32) (k : Int32 → α) : α := fN (fun n => k (nI n)) x.toBitVec.toNat
theorem fI_eq {α : Type} (x : Int32) (k : Int32 → α) : fI x k = k x := by
  unfold fI
  rw [fN_eq, nI_nat]
def fR {α : Type} (f : Rw) (k : List Int32 → α) : Nat → List Int32 → α
  | 0, L => k L
  | n + 1, L => fI (f n) (fun v => fR f k n (v :: L))
def tbl (f : Rw) : Nat → List Int32 → List Int32
  | 0, L => L
  | n + 1, L => tbl f n (f n :: L)
theorem fR_eq {α : Type} (f : Rw) (k : List Int32 → α) : ∀ n L, fR f k n L = k (tbl f n L)
  | 0, L => rfl
  | n + 1, L => by
    show fI (f n) (fun v => fR f k n (v :: L)) = _
    rw [fI_eq]
    exact fR_eq f k n _
def lR (L : List Int32) : Rw := fun j => L.getD j 0
theorem tbl_get (f : Rw) : ∀ n L j, lR (tbl f n L) j = if j < n then f j else lR L (j - n)
  | 0, L, j => by rw [if_neg (by omega), Nat.sub_zero]; rfl
  | n + 1, L, j => by
    show lR (tbl f n (f n :: L)) j = _
    rw [tbl_get f n]
    by_cases h : j < n
    · rw [if_pos h, if_pos (by omega)]
    · rw [if_neg h]
      by_cases h2 : j = n
      · rw [if_pos (by omega), h2, Nat.sub_self]; rfl
      · rw [if_neg (by omega), show j - n = (j - (n + 1)) + 1 by omega]; rfl
theorem tbl_eq (f : Rw) {n j : Nat} (h : j < n) : lR (tbl f n []) j = f j := by rw [tbl_get, if_pos h]
/-- AES -/
def eE {α : Type} (rk : Rw) (K : Rw → α) : Nat → Nat → Rw → α
  | 0, r, s => fR (ark (asub s) rk r) (fun L => K (lR L)) 16 []
  | m + 1, r, s => fR (ark (amix (asub s)) rk r) (fun L => eE rk K m (r + 1) (lR L)) 16 []
def evE {α : Type} (rk : Rw) (R : Nat) (s : Rw) (K : Rw → α) : α := fR (ark s rk 0) (fun L => eE rk K (R - 1) 1 (lR L)) 16 []
theorem tbl_16 {f g : Rw} (h : eq16 f g) : eq16 (lR (tbl f 16 [])) g := fun j hj => (tbl_eq f hj).trans (h j hj)
theorem eE_eq {α : Type} (rk s0 : Rw) (K : Rw → α) : ∀ m r s, eq16 s (aesS rk s0 r) → ∃ t, eE rk K m (r + 1) s = K t ∧ eq16 t (ark (asub (aesS rk s0 (r + m))) rk (r + 1 + m))
  | 0, r, s, h => ⟨_, fR_eq _ _ _ _, tbl_16 (ark_c (asub_c h) (fun _ _ => rfl))⟩
  | m + 1, r, s, h => by
    have h1 : eq16 (lR (tbl (ark (amix (asub s)) rk (r + 1)) 16 [])) (aesS rk s0 (r + 1)) := tbl_16 (ark_c (amix_c (asub_c h)) (fun _ _ => rfl))
    obtain ⟨t, e, g⟩ := eE_eq rk s0 K m (r + 1) _ h1
    refine ⟨t, (fR_eq _ _ _ _).trans e, ?_⟩
    rw [show r + 1 + m = r + (m + 1) by omega, show r + 1 + 1 + m = r + 1 + (m + 1) by omega] at g
    exact g
theorem evE_eq {α : Type} (rk : Rw) {R : Nat} (hR : 1 ≤ R) (s : Rw) (K : Rw → α) : ∃ t, evE rk R s K = K t ∧ eq16 t (aesE rk R s) := by
  obtain ⟨t, e, g⟩ := eE_eq rk s K (R - 1) 0 (lR (tbl (ark s rk 0) 16 [])) (tbl_16 (fun _ _ => rfl))
  refine ⟨t, (fR_eq _ _ _ _).trans e, ?_⟩
  rw [Nat.zero_add, show 0 + 1 + (R - 1) = R by omega] at g
  exact g
def eD {α : Type} (rk : Rw) (K : Rw → α) : Nat → Rw → α
  | 0, s => fR (ark (asbk s) rk 0) (fun L => K (lR L)) 16 []
  | m + 1, s => fR (ark (asbk s) rk (m + 1)) (fun L => fR (aumx (lR L)) (fun L => eD rk K m (lR L)) 16 []) 16 []
def evD {α : Type} (rk : Rw) (R : Nat) (s : Rw) (K : Rw → α) : α := fR (ark s rk R) (fun L => eD rk K (R - 1) (lR L)) 16 []
theorem eD_eq {α : Type} (rk s0 : Rw) {R : Nat} (K : Rw → α) : ∀ m j s, m + j = R - 1 → eq16 s (aesT rk R s0 j) → ∃ t, eD rk K m s = K t ∧ eq16 t (ark (asbk (aesT rk R s0 (R - 1))) rk 0)
  | 0, j, s, hj, h => ⟨_, fR_eq _ _ _ _, tbl_16 (by rw [← hj, Nat.zero_add]; exact ark_c (asbk_c h) (fun _ _ => rfl))⟩
  | m + 1, j, s, hj, h => by
    have h1 : eq16 (lR (tbl (ark (asbk s) rk (m + 1)) 16 [])) (ark (asbk (aesT rk R s0 j)) rk (R - 1 - j)) := by
      rw [show R - 1 - j = m + 1 by omega]
      exact tbl_16 (ark_c (asbk_c h) (fun _ _ => rfl))
    obtain ⟨t, e, g⟩ := eD_eq rk s0 K m (j + 1) _ (by omega) (tbl_16 (aumx_c h1))
    exact ⟨t, (fR_eq _ _ _ _).trans ((fR_eq _ _ _ _).trans e), g⟩
theorem evD_eq {α : Type} (rk : Rw) (R : Nat) (s : Rw) (K : Rw → α) : ∃ t, evD rk R s K = K t ∧ eq16 t (aesD rk R s) := by
  obtain ⟨t, e, g⟩ := eD_eq rk s (R := R) K (R - 1) 0 (lR (tbl (ark s rk R) 16 [])) (by omega) (tbl_16 (fun _ _ => rfl))
  exact ⟨t, (fR_eq _ _ _ _).trans e, g⟩
/-- SHA -/
def eX {α : Type} (K : Rw → α) : Nat → Nat → Rw → α
  | 0, _, f => K f
  | m + 1, i, f => fI (shX f i) (fun v => fN (fun i' => eX K m i' (upd f i v)) (i + 1))
theorem eX_eq {α : Type} (K : Rw → α) : ∀ m i f, eX K m i f = K (zit (fun i f => upd f i (shX f i)) i m f)
  | 0, _, _ => rfl
  | m + 1, i, f => by
    show fI (shX f i) (fun v => fN (fun i' => eX K m i' (upd f i v)) (i + 1)) = _
    rw [fI_eq, fN_eq]
    exact eX_eq K m _ _
def f8 {α : Type} (z : R8) (K : R8 → α) : α :=
  fI z.1 (fun a => fI z.2.1 (fun b => fI z.2.2.1 (fun c => fI z.2.2.2.1 (fun d => fI z.2.2.2.2.1 (fun e => fI z.2.2.2.2.2.1 (fun f => fI z.2.2.2.2.2.2.1 (fun g => fI z.2.2.2.2.2.2.2 (fun h => K (a, b, c, d, e, f, g, h)))))))))
theorem f8_eq {α : Type} (z : R8) (K : R8 → α) : f8 z K = K z := by
  unfold f8
  simp only [fI_eq]
def eZ {α : Type} (w : Rw) (K : R8 → α) : Nat → Nat → R8 → α
  | 0, _, z => K z
  | m + 1, i, z => f8 (shR w i z) (fun z' => fN (fun i' => eZ w K m i' z') (i + 1))
theorem eZ_eq {α : Type} (w : Rw) (K : R8 → α) : ∀ m i z, eZ w K m i z = K (zit (shR w) i m z)
  | 0, _, _ => rfl
  | m + 1, i, z => by
    show f8 (shR w i z) (fun z' => fN (fun i' => eZ w K m i' z') (i + 1)) = _
    rw [f8_eq, fN_eq]
    exact eZ_eq w K m _ _
def evC {α : Type} (m h : Rw) (K : Rw → α) : α :=
  fR m (fun L => eX (fun f => fR f (fun W => fR h (fun H => eZ (lR W) (fun z => fR (shA (lR H) z) (fun L => K (lR L)) 8 []) 64 0 (lR H 0, lR H 1, lR H 2, lR H 3, lR H 4, lR H 5, lR H 6, lR H 7)) 8 []) 64 []) 48 16 (lR L)) 16 []
theorem evC_eq {α : Type} (m h : Rw) (K : Rw → α) : ∃ t, evC m h K = K t ∧ ∀ j, j < 8 → t j = shC m h j := by
  obtain ⟨M, hM⟩ : ∃ M, M = lR (tbl m 16 []) := ⟨_, rfl⟩
  obtain ⟨H, hH⟩ : ∃ H, H = lR (tbl h 8 []) := ⟨_, rfl⟩
  have e1 : ∀ j, j < 16 → M j = m j := fun j hj => by rw [hM]; exact tbl_eq m hj
  have e2 : ∀ j, j < 8 → H j = h j := fun j hj => by rw [hH]; exact tbl_eq h hj
  have ew : ∀ j, j < 64 → lR (tbl (shE M) 64 []) j = shE M j := fun j hj => tbl_eq _ hj
  refine ⟨lR (tbl (shA H (zit (shR (lR (tbl (shE M) 64 []))) 0 64 (H 0, H 1, H 2, H 3, H 4, H 5, H 6, H 7))) 8 []), ?_, fun j hj => ?_⟩
  · unfold evC
    rw [fR_eq, eX_eq, fR_eq, fR_eq, eZ_eq, fR_eq, ← hM, ← hH]
    rfl
  · rw [tbl_eq _ hj, ← shC_congr e1 e2 j hj]
    unfold shC shZ
    rw [shR_congr ew]
