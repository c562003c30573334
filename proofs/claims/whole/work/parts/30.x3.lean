/-! steps with rows that are counted out -/
theorem rkL {nk : Nat} {ak : Rw} {tf : Nat → Int64} {KX : List Int32} (hnk : nk = 4 ∨ nk = 8) (h1 : kxP nk (4 * (nk + 7)) (kB ak)) (h2 : ∀ t, t < 4 * nk → kB ak t = ptR tf t) (h3 : kxP nk (4 * (nk + 7)) (lR KX)) (h4 : ∀ t, t < 4 * nk → ptR tf t = lR KX t) : ∀ t, t < 16 * (nk + 6 + 1) → kB ak t = lR KX t :=
  fun t ht => kx_both hnk h1 h3 (fun t ht => (h2 t ht).trans (h4 t ht)) t (by omega)
theorem vE {E : Rw → Rw} (hE : ∀ s t, eq16 s t → eq16 (E s) (E t)) {IN OUT : List Int32} (hv : eq16 (E (lR IN)) (lR OUT)) {s : Rw} (hs : eq16 s (lR IN)) : eq16 (E s) (lR OUT) := fun i hi => (hE s _ hs i hi).trans (hv i hi)
theorem cb_step {E : Rw → Rw} (hE : ∀ s t, eq16 s t → eq16 (E s) (E t)) {a i N : Nat} {m : Rw} {M IN OUT M' : List Int32} (hm : eqN N m (lR M)) (h1 : eq16 (fun t => lR M (a + 16 * (i + 1) + t) ^^^ lR M (a + 16 * i + t)) (lR IN)) (h2 : eq16 (E (lR IN)) (lR OUT)) (h3 : eqN N (zrow (a + 16 * (i + 1)) 16 (lR OUT) (lR M)) (lR M')) (hN : a + 16 * (i + 1) + 16 ≤ N) : eqN N (cbS E a i m) (lR M') := by
  have e : eq16 (E (fun t => m (a + 16 * (i + 1) + t) ^^^ m (a + 16 * i + t))) (lR OUT) := vE hE h2 (fun t ht => by
    show m (a + 16 * (i + 1) + t) ^^^ m (a + 16 * i + t) = _
    rw [hm _ (by omega), hm _ (by omega)]; exact h1 t ht)
  intro j hj
  rw [← h3 j hj]
  unfold cbS
  exact eqN_row hm (fun t ht => e t ht) j hj
theorem w_step {E : Rw → Rw} (hE : ∀ s t, eq16 s t → eq16 (E s) (E t)) {n k : Nat} {m : Rw} {M IN OUT M' : List Int32} (hn : 0 < n) (hm : eqN (8 + 8 * n) m (lR M)) (h1 : eq16 (wX (lR M) (8 + 8 * (k % n))) (lR IN)) (h2 : eq16 (E (lR IN)) (lR OUT)) (h3 : eqN (8 + 8 * n) (zrow (8 + 8 * (k % n)) 8 (fun i => lR OUT (8 + i)) (zrow 0 8 (fun i => lR OUT i ^^^ (if i = 7 then nI (k + 1) else 0)) (lR M))) (lR M')) : eqN (8 + 8 * n) (wS E n k m) (lR M') := by
  have hk : k % n < n := Nat.mod_lt _ hn
  have e : eq16 (E (wX m (8 + 8 * (k % n)))) (lR OUT) := vE hE h2 (fun t ht => by
    rw [← h1 t ht]
    unfold wX
    by_cases q : t < 8
    · rw [if_pos q, if_pos q, hm _ (by omega)]
    · rw [if_neg q, if_neg q, hm _ (by omega)])
  intro j hj
  rw [← h3 j hj, wS_def]
  exact eqN_row (eqN_row hm (fun t ht => by rw [e t (by omega)])) (fun t ht => e _ (by omega)) j hj
def fJ {α : Type} (x : Int64) (k : Int64 → α) : α := fN (fun n => k (Int64.ofNat n)) x.toBitVec.toNat
theorem fJ_eq {α : Type} (x : Int64) (k : Int64 → α) : fJ x k = k x := by
  unfold fJ
  rw [fN_eq]
  congr 1
  apply Int64.toBitVec_inj.mp
  show BitVec.ofNat 64 x.toBitVec.toNat = x.toBitVec
  rw [BitVec.ofNat_toNat, BitVec.setWidth_eq]
def f4 {α : Type} (z : L4) (K : L4 → α) : α := fJ z.1 (fun a => fJ z.2.1 (fun b => fJ z.2.2.1 (fun c => fJ z.2.2.2 (fun d => K (a, b, c, d)))))
theorem f4_eq {α : Type} (z : L4) (K : L4 → α) : f4 z K = K z := by
  unfold f4
  simp only [fJ_eq]
def eG {α : Type} (x y : Int64) (K : L4 → α) : Nat → Nat → L4 → α
  | 0, _, z => K z
  | m + 1, i, z => f4 (gmS x y i z) (fun z' => fN (fun i' => eG x y K m i' z') (i + 1))
theorem eG_eq {α : Type} (x y : Int64) (K : L4 → α) : ∀ m i z, eG x y K m i z = K (zit (gmS x y) i m z)
  | 0, _, _ => rfl
  | m + 1, i, z => by
    show f4 (gmS x y i z) (fun z' => fN (fun i' => eG x y K m i' z') (i + 1)) = _
    rw [f4_eq, fN_eq]
    exact eG_eq x y K m _ _
theorem v_gm {kh kl x y a b : Int64} (h : eG x y (fun z => decide (z.1 = a ∧ z.2.1 = b)) 128 0 (0, 0, kh, kl) = true) : gm kh kl x y = (a, b) := by
  rw [eG_eq] at h
  have h' := of_decide_eq_true h
  unfold gm
  rw [h'.1, h'.2]
def flp (a : Nat) (p : Int32) (m : Rw) : Rw := upd m a (m a ^^^ p)
theorem flp_at {a j : Nat} {p : Int32} {m g : Rw} (h : m j = g j) (ha : m a = g a) : flp a p m j = flp a p g j := by
  unfold flp
  by_cases q : j = a
  · rw [q, upd_s, upd_s, ha]
  · rw [upd_n _ _ q, upd_n _ _ q, h]
theorem RB_flp {a n : Nat} {p : Int32} {w m : Rw} (hp : p = 0 ∨ p = 1) (h : RB n w m) (ha : a < n) : RB n (upd w a (vp_nar .byte ((w a ^^^ p).toInt8.toInt32))) (flp a p m) := by
  rw [h a ha, sB_flip hp]
  exact RB_upd h
theorem U_flp {a n : Nat} {p : Int32} {m : Rw} (hp : p = 0 ∨ p = 1) (h : isU8 m n) (ha : a < n) : isU8 (flp a p m) n := U_upd h (flip_u hp (h a ha))
theorem hE_aes (rk : Rw) {R : Nat} (hR : 1 ≤ R) : ∀ s t, eq16 s t → eq16 (aesE rk R s) (aesE rk R t) := fun s t h => aesE_c h hR (fun _ _ => rfl)
theorem uL {L : List Int32} {n : Nat} (h : ck (fun j => lR L j &&& 255) (lR L) n = true) : isU8 (lR L) n := fun j hj => ck_eq h j hj
