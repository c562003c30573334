/-! GCM: blocks of the counter, and the tag -/
def gcB (non : Rw) (v : Int32) : Rw := fun t => if t < 12 then non t else wB v (t - 12)
theorem gcB_u {non : Rw} (u : isU8 non 12) (v : Int32) : isU8 (gcB non v) 16 := by
  intro t ht
  unfold gcB
  by_cases h : t < 12
  · rw [if_pos h]; exact u t h
  · rw [if_neg h]; exact wB_u _ _
theorem gcB_c {non non' : Rw} (h : ∀ t, t < 12 → non t = non' t) (v : Int32) : eq16 (gcB non v) (gcB non' v) := by
  intro t ht
  unfold gcB
  by_cases hc : t < 12
  · rw [if_pos hc, if_pos hc, h t hc]
  · rw [if_neg hc, if_neg hc]
theorem wB_k : ∀ k, k < 256 → wB (nI k) 0 = 0 ∧ wB (nI k) 1 = 0 ∧ wB (nI k) 2 = 0 ∧ wB (nI k) 3 = nI k := by decide +kernel
theorem cr_z (s : Nat → Nat) (q : Nat) (hs : ∀ i, i < 16 → s i < 256) (h : q + s 15 < 256) : ∀ j, j < 15 → cr s q (j + 1) = 0
  | 0, _ => by
    show (q + s 15) / 256 = 0
    omega
  | j + 1, hj => by
    have h1 := cr_z s q hs h j (by omega)
    have h2 := hs (15 - (j + 1)) (by omega)
    show (cr s q (j + 1) + s (15 - (j + 1))) / 256 = 0
    rw [h1]
    omega
theorem ctB_gcB {non : Rw} (u : isU8 non 12) {q : Nat} (hq : q < 254) : eq16 (ctB (gcB non 2) q) (gcB non (nI (2 + q))) := by
  have uu := gcB_u u 2
  have hs : ∀ i, i < 16 → vN (gcB non 2 i) < 256 := fun i hi => (vN_u (uu i hi)).1
  have w2 : wB 2 0 = 0 ∧ wB 2 1 = 0 ∧ wB 2 2 = 0 ∧ wB 2 3 = 2 := wB_k 2 (by omega)
  have h15 : vN (gcB non 2 15) = 2 := by
    unfold gcB
    rw [if_neg (by omega)]
    show vN (wB 2 3) = 2
    rw [w2.2.2.2]
    rfl
  obtain ⟨k0, k1, k2, k3⟩ := wB_k (2 + q) (by omega)
  intro i hi
  by_cases h : i = 15
  · subst h
    show nI ((cr (fun i => vN (gcB non 2 i)) q 0 + vN (gcB non 2 15)) % 256) = gcB non (nI (2 + q)) 15
    rw [h15]
    unfold gcB
    rw [if_neg (by omega)]
    show nI ((q + 2) % 256) = wB (nI (2 + q)) 3
    rw [k3, Nat.mod_eq_of_lt (by omega), Nat.add_comm]
  · show nI ((cr (fun i => vN (gcB non 2 i)) q (15 - i) + vN (gcB non 2 i)) % 256) = gcB non (nI (2 + q)) i
    rw [show 15 - i = 14 - i + 1 by omega, cr_z (fun i => vN (gcB non 2 i)) q hs (by show q + vN (gcB non 2 15) < 256; rw [h15]; omega) (14 - i) (by omega), Nat.zero_add, Nat.mod_eq_of_lt (hs i hi), ← (vN_u (uu i hi)).2]
    unfold gcB
    by_cases hc : i < 12
    · rw [if_pos hc, if_pos hc]
    · rw [if_neg hc, if_neg hc]
      rcases (show i - 12 = 0 ∨ i - 12 = 1 ∨ i - 12 = 2 by omega) with e | e | e
      · rw [e, w2.1, k0]
      · rw [e, w2.2.1, k1]
      · rw [e, w2.2.2.1, k2]
theorem stX_c {G G' : Nat → Rw} {a n : Nat} {m : Rw} (h : ∀ i, 16 * i < n → eq16 (G i) (G' i)) : stX G a n m = stX G' a n m := zrow_congr (fun t ht => by rw [h (t / 16) (by omega) (t % 16) (by omega)])
theorem RB_gcB {N p : Nat} {c m f : Rw} (h : RB N c m) (hp : p + 12 ≤ N) (v : Int32) : RB 16 (zrow 12 4 (fun j => sB (wB v j)) (zrow 0 12 (fun t => c (p + t)) f)) (gcB (fun t => m (p + t)) v) := by
  intro j hj
  unfold gcB
  by_cases hc : j < 12
  · rw [if_pos hc, zrow_out (by omega), zrow_0 hc]
    exact h _ (by omega)
  · rw [if_neg hc, zrow_in (by omega) (by omega)]
set_option maxHeartbeats 4000000 in
theorem p_X4_addNonceStream {N p a n R : Nat} {keys rk c m : Rw} (bl pad : Rw) (h : RB N c m) (u : isU8 m N) (hp : p + 12 ≤ N) (ha : a + n ≤ N) (hN : N ≤ 1500) (h1 : 1 ≤ R) (hR : R ≤ 14) (hk : ∀ t, t < 16 * (R + 1) → kB keys t = rk t) (uk : isU8 rk (16 * (R + 1))) :
    ∃ bl' pad' c', f_X4_addNonceStream N (nI p) (nI a) (nI n) (nI R) keys bl pad c = some (bl', pad', c') ∧ RB N c' (stX (fun i => aesE rk R (gcB (fun t => m (p + t)) (nI (2 + i)))) a n m) := by
  have un : isU8 (fun t => m (p + t)) 12 := fun t ht => u _ (by omega)
  obtain ⟨bl', pad', c', e, g⟩ := p_X4_addStreamOfBlock (b := gcB (fun t => m (p + t)) 2) pad (RB_gcB (f := bl) h hp 2) (gcB_u un 2) h u ha hN h1 hR hk uk
  rw [stX_c (fun i hi => aesE_c (ctB_gcB un (show i < 254 by omega)) h1 (fun _ _ => rfl))] at g
  refine ⟨bl', pad', c', ?_, g⟩
  have e2 : ∀ f, f_X9_putInt 16 (12 : Int32) (2 : Int32) f = some (zrow 12 4 (fun j => sB (wB 2 j)) f) := fun f => p_X9_putInt (N := 16) (a := 12) 2 f (by omega) (by omega)
  unfold f_X4_addNonceStream
  simp (disch := omega) only [zCl, zClk, znE]
  rw [zk_T ⟨nI_pos (by omega), by decide, by decide, by omega, by omega, fun j hj => RB_fit h (by omega)⟩, cpE, e2, zbE, e, zbE]
/-- the tag -/
def gKh (E : Rw → Rw) : Int64 := L8 (E (fun _ => 0))
def gKl (E : Rw → Rw) : Int64 := L8 (fun t => E (fun _ => 0) (8 + t))
def gSum (E : Rw → Rw) (aad : Rw) (hd : Nat) (ct : Rw) (tx : Nat) : Int64 × Int64 := ga (gKh E) (gKl E) ct tx (ga (gKh E) (gKl E) aad hd (0, 0))
def gTh (E : Rw → Rw) (aad : Rw) (hd : Nat) (ct : Rw) (tx : Nat) : Int64 × Int64 := gm (gKh E) (gKl E) ((gSum E aad hd ct tx).1 ^^^ (8 * (nI hd).toInt64)) ((gSum E aad hd ct tx).2 ^^^ (8 * (nI tx).toInt64))
def gTag (E : Rw → Rw) (non aad : Rw) (hd : Nat) (ct : Rw) (tx : Nat) : Rw := fun j => if j < 8 then lB ((gTh E aad hd ct tx).1 ^^^ L8 (E (gcB non 1))) j else lB ((gTh E aad hd ct tx).2 ^^^ L8 (fun t => E (gcB non 1) (8 + t))) (j - 8)
theorem gTag_u (E : Rw → Rw) (non aad : Rw) (hd : Nat) (ct : Rw) (tx : Nat) : isU8 (gTag E non aad hd ct tx) 16 := by
  intro j hj
  unfold gTag
  by_cases h : j < 8
  · rw [if_pos h]; exact lB_u _ h
  · rw [if_neg h]; exact lB_u _ (by omega)
theorem gTag_c {E : Rw → Rw} (hE : ∀ s t, eq16 s t → eq16 (E s) (E t)) {non non' aad aad' ct ct' : Rw} {hd tx : Nat} (h1 : ∀ t, t < 12 → non t = non' t) (h2 : eqN hd aad aad') (h3 : eqN tx ct ct') : gTag E non aad hd ct tx = gTag E non' aad' hd ct' tx := by
  have e1 : gSum E aad hd ct tx = gSum E aad' hd ct' tx := by
    unfold gSum
    rw [ga_c _ h2, ga_c _ h3]
  have e2 : gTh E aad hd ct tx = gTh E aad' hd ct' tx := by
    unfold gTh
    rw [e1]
  have e3 := hE _ _ (gcB_c h1 1)
  have e4 : L8 (E (gcB non 1)) = L8 (E (gcB non' 1)) := L8_c (fun j hj => e3 j (by omega))
  have e5 : L8 (fun t => E (gcB non 1) (8 + t)) = L8 (fun t => E (gcB non' 1) (8 + t)) := L8_c (fun j hj => e3 (8 + j) (by omega))
  unfold gTag
  rw [e2, e4, e5]
set_option maxHeartbeats 8000000 in
theorem p_X2_findTag {N p hd tx R : Nat} {keys rk c m : Rw} (q1 q2 q3 q4 : Int64) (tag : Rw) (h : RB N c m) (u : isU8 m N) (hp : p + 12 + hd + tx ≤ N) (hN : N ≤ 1500) (h1 : 1 ≤ R) (hR : R ≤ 14) (hk : ∀ t, t < 16 * (R + 1) → kB keys t = rk t) (uk : isU8 rk (16 * (R + 1))) :
    ∃ a b s t tag', f_X2_findTag N (nI p) (nI hd) (nI tx) q1 q2 q3 q4 (nI R) keys tag c = some (a, b, s, t, tag') ∧ RB 16 tag' (gTag (aesE rk R) (fun t => m (p + t)) (fun t => m (p + 12 + t)) hd (fun t => m (p + 12 + hd + t)) tx) := by
  have enc : ∀ x y, RB 16 x y → isU8 y 16 → f_X0_encrypt 16 (0 : Int32) (nI R) keys x = some (zrow 0 16 (fun j => sB (aesE rk R y j)) x) := fun x y hx hy => c_enc0 hx hy h1 hR hk
  have uE : ∀ s, isU8 s 16 → isU8 (aesE rk R s) 16 := fun s hs => aesE_u hs h1 uk
  obtain ⟨E, hE⟩ : ∃ E, E = aesE rk R := ⟨_, rfl⟩
  rw [← hE] at enc uE ⊢
  have uz : isU8 (fun _ => (0 : Int32)) 16 := fun _ _ => (by decide : (0 : Int32) &&& 255 = 0)
  have la : ∀ (b s : Rw), RB 16 b s → isU8 s 16 → f_X9_longAt 16 (0 : Int32) b = some (L8 s) := fun b s hb hu => (p_X9_longAt (N := 16) (a := 0) b (by omega) (by omega)).trans (congrArg some (L8_c (fun j hj => by rw [Nat.zero_add]; exact RB_u hb hu (by omega))))
  have lb : ∀ (b s : Rw), (∀ j, j < 8 → b (8 + j) = sB (s (8 + j))) → isU8 s 16 → f_X9_longAt 16 (8 : Int32) b = some (L8 (fun t => s (8 + t))) := fun b s hb hu => (p_X9_longAt (N := 16) (a := 8) b (by omega) (by omega)).trans (congrArg some (L8_c (fun j hj => by rw [hb j hj, sB_and]; exact hu _ (by omega))))
  have w1 : ∀ v f, f_X9_putLong 16 (0 : Int32) v f = some (zrow 0 8 (fun j => sB (lB v j)) f) := fun v f => p_X9_putLong (N := 16) (a := 0) v f (by omega) (by omega)
  have w2 : ∀ v f, f_X9_putLong 16 (8 : Int32) v f = some (zrow 8 8 (fun j => sB (lB v j)) f) := fun v f => p_X9_putLong (N := 16) (a := 8) v f (by omega) (by omega)
  have wi : ∀ f, f_X9_putInt 16 (12 : Int32) (1 : Int32) f = some (zrow 12 4 (fun j => sB (wB 1 j)) f) := fun f => p_X9_putInt (N := 16) (a := 12) 1 f (by omega) (by omega)
  have un : isU8 (fun t => m (p + t)) 12 := fun t ht => u _ (by omega)
  obtain ⟨t2, ht2⟩ : ∃ q, q = zrow 0 16 (fun j => sB (E (fun _ => 0) j)) (zrow 0 16 (fun _ => 0) tag) := ⟨_, rfl⟩
  have r2 : RB 16 t2 (E (fun _ => 0)) := by rw [ht2]; exact zrow_RB
  obtain ⟨s1, hs1⟩ : ∃ s, s = ga (gKh E) (gKl E) (fun t => m (p + 12 + t)) hd (0, 0) := ⟨_, rfl⟩
  obtain ⟨s2, hs2⟩ : ∃ s, s = ga (gKh E) (gKl E) (fun t => m (p + 12 + hd + t)) tx s1 := ⟨_, rfl⟩
  have eg : gSum E (fun t => m (p + 12 + t)) hd (fun t => m (p + 12 + hd + t)) tx = s2 := by rw [hs2, hs1]; rfl
  have ea : f_X2_absorb N (nI (p + 12)) (nI hd) (gKh E) (gKl E) (0 : Int64) (0 : Int64) c = some (s1.1, s1.2) := by rw [hs1]; exact p_X2_absorb (gKh E) (gKl E) (0, 0) h u (by omega) hN
  have eb : f_X2_absorb N (nI (p + 12 + hd)) (nI tx) (gKh E) (gKl E) s1.1 s1.2 c = some (s2.1, s2.2) := by rw [hs2]; exact p_X2_absorb (gKh E) (gKl E) s1 h u (by omega) hN
  obtain ⟨g, hg⟩ : ∃ g, g = gm (gKh E) (gKl E) (s2.1 ^^^ ((8 : Int64) * (nI hd).toInt64)) (s2.2 ^^^ ((8 : Int64) * (nI tx).toInt64)) := ⟨_, rfl⟩
  have eT : gTh E (fun t => m (p + 12 + t)) hd (fun t => m (p + 12 + hd + t)) tx = g := by unfold gTh; rw [eg, hg]
  have em : f_X2_multiply (gKh E) (gKl E) (s2.1 ^^^ ((8 : Int64) * (nI hd).toInt64)) (s2.2 ^^^ ((8 : Int64) * (nI tx).toInt64)) = some (g.1, g.2) := by rw [hg]; exact p_X2_multiply _ _ _ _
  have r14 := RB_gcB (f := t2) h (show p + 12 ≤ N by omega) 1
  have u14 := gcB_u un 1
  have e15 := enc _ _ r14 u14
  obtain ⟨T, hT⟩ : ∃ T, T = E (gcB (fun t => m (p + t)) 1) := ⟨_, rfl⟩
  have uT : isU8 T 16 := by rw [hT]; exact uE _ u14
  rw [← hT] at e15
  obtain ⟨t15, ht15⟩ : ∃ q, q = zrow 0 16 (fun j => sB (T j)) (zrow 12 4 (fun j => sB (wB 1 j)) (zrow 0 12 (fun t => c (p + t)) t2)) := ⟨_, rfl⟩
  have r15 : RB 16 t15 T := by rw [ht15]; exact zrow_RB
  rw [← ht15] at e15
  have e18 : ∀ v, f_X9_longAt 16 (8 : Int32) (zrow 0 8 (fun j => sB (lB v j)) t15) = some (L8 (fun t => T (8 + t))) := fun v => lb _ T (fun j hj => by rw [zrow_out (by omega)]; exact r15 _ (by omega)) uT
  have fin : RB 16 (zrow 8 8 (fun j => sB (lB (L8 (fun t => T (8 + t)) ^^^ g.2) j)) (zrow 0 8 (fun j => sB (lB (L8 T ^^^ g.1) j)) t15)) (gTag E (fun t => m (p + t)) (fun t => m (p + 12 + t)) hd (fun t => m (p + 12 + hd + t)) tx) := by
    intro j hj
    unfold gTag
    rw [eT, ← hT]
    by_cases h8 : j < 8
    · rw [if_pos h8, zrow_out (by omega), zrow_0 h8, Int64.xor_comm]
    · rw [if_neg h8, zrow_in (by omega) (by omega), Int64.xor_comm]
  unfold f_X2_findTag
  rw [c_zero, zbE, enc _ _ (RB_zero tag) uz, zbE, ← ht2, la _ _ r2 (uE _ uz), zbE, lb _ _ (fun j hj => r2 _ (by omega)) (uE _ uz), zbE]
  rw [show L8 (E (fun _ => 0)) = gKh E from rfl, show L8 (fun t => E (fun _ => 0) (8 + t)) = gKl E from rfl, zA, nI_add, ea]
  simp only [zbE]
  rw [eb]
  simp only [zbE, znE]
  rw [em]
  simp (disch := omega) only [zbE, znE, zCl, zClk]
  rw [zk_T ⟨nI_pos (by omega), by decide, by decide, by omega, by omega, fun j hj => RB_fit h (by omega)⟩, cpE, wi, zbE, e15, zbE, la _ _ r15 uT, zbE, w1, zbE, e18, zbE, w2, zbE]
  exact ⟨_, _, _, _, _, rfl, fin⟩
