/-! GCM in the class: sealed, opened -/
def gStr (E : Rw → Rw) (m : Rw) (p : Nat) : Nat → Rw := fun i => E (gcB (fun t => m (p + t)) (nI (2 + i)))
def gTx (E : Rw → Rw) (m : Rw) (p hd tx : Nat) : Rw := stX (gStr E m p) (p + 12 + hd) tx m
def gTagS (E : Rw → Rw) (m : Rw) (p hd tx : Nat) : Rw := gTag E (fun t => m (p + t)) (fun t => m (p + 12 + t)) hd (fun t => gTx E m p hd tx (p + 12 + hd + t)) tx
def gTagO (E : Rw → Rw) (m : Rw) (p hd tx : Nat) : Rw := gTag E (fun t => m (p + t)) (fun t => m (p + 12 + t)) hd (fun t => m (p + 12 + hd + t)) tx
def gSeal (E : Rw → Rw) (m : Rw) (p hd tx : Nat) : Rw := zrow (p + 12 + hd + tx) 16 (gTagS E m p hd tx) (gTx E m p hd tx)
def gOk (E : Rw → Rw) (m : Rw) (p hd tx : Nat) : Prop := ∀ t, t < 16 → gTagO E m p hd tx t = m (p + 12 + hd + tx + t)
theorem gTx_lo {E : Rw → Rw} {m : Rw} {p hd tx x : Nat} (h : x < p + 12 + hd) : gTx E m p hd tx x = m x := by
  unfold gTx stX
  exact zrow_out (by omega)
theorem gStr_u {E : Rw → Rw} (hE : ∀ s, isU8 s 16 → isU8 (E s) 16) {m : Rw} {p N : Nat} (u : isU8 m N) (hp : p + 12 ≤ N) (i : Nat) : isU8 (gStr E m p i) 16 := hE _ (gcB_u (fun t ht => u _ (by omega)) _)
set_option maxHeartbeats 8000000 in
theorem p_X2_sealText {N p hd tx R : Nat} {keys rk c m : Rw} (q1 q2 q3 q4 : Int64) (mb mp tag : Rw) (h : RB N c m) (u : isU8 m N) (hp : p + 12 + hd + tx + 16 ≤ N) (hN : N ≤ 1500) (h1 : 1 ≤ R) (hR : R ≤ 14) (hk : ∀ t, t < 16 * (R + 1) → kB keys t = rk t) (uk : isU8 rk (16 * (R + 1))) :
    ∃ a b s t mb' mp' tag' c', f_X2_sealText N (nI p) (nI hd) (nI tx) q1 q2 q3 q4 (nI R) keys mb mp tag c = some (a, b, s, t, mb', mp', tag', c') ∧ RB N c' (gSeal (aesE rk R) m p hd tx) := by
  have uE : ∀ s, isU8 s 16 → isU8 (aesE rk R s) 16 := fun s hs => aesE_u hs h1 uk
  have cE : ∀ s t, eq16 s t → eq16 (aesE rk R s) (aesE rk R t) := fun s t hs => aesE_c hs h1 (fun _ _ => rfl)
  obtain ⟨b1, p1, c1, e1, g1⟩ := p_X4_addNonceStream (p := p) (a := p + 12 + hd) (n := tx) mb mp h u (by omega) (by omega) hN h1 hR hk uk
  have g1' : RB N c1 (gTx (aesE rk R) m p hd tx) := g1
  have u1 : isU8 (gTx (aesE rk R) m p hd tx) N := stX_u (gStr_u uE u (by omega)) u (by omega)
  obtain ⟨a, b, s, t, tag', e2, g2⟩ := p_X2_findTag (p := p) (hd := hd) (tx := tx) q1 q2 q3 q4 tag g1' u1 (by omega) hN h1 hR hk uk
  have lo : ∀ x, x < p + 12 + hd → gTx (aesE rk R) m p hd tx x = m x := fun x hx => gTx_lo hx
  have g2' : RB 16 tag' (gTagS (aesE rk R) m p hd tx) := by
    have e := gTag_c cE (non := fun t => gTx (aesE rk R) m p hd tx (p + t)) (non' := fun t => m (p + t)) (aad := fun t => gTx (aesE rk R) m p hd tx (p + 12 + t)) (aad' := fun t => m (p + 12 + t)) (ct := fun t => gTx (aesE rk R) m p hd tx (p + 12 + hd + t)) (ct' := fun t => gTx (aesE rk R) m p hd tx (p + 12 + hd + t)) (hd := hd) (tx := tx) (fun t ht => lo _ (by omega)) (fun t ht => lo _ (by omega)) (fun t ht => rfl)
    rw [e] at g2
    exact g2
  unfold f_X2_sealText
  rw [zA, nI_add, znE, e1]
  simp only [zbE]
  rw [e2]
  simp (disch := omega) only [zbE, znE, nI_add, zCl, zClk]
  rw [zk_T ⟨by decide, nI_pos (by omega), by decide, by omega, by omega, fun j hj => by rw [Nat.zero_add]; exact RB_fit g2' (by omega)⟩, cpE]
  refine ⟨_, _, _, _, _, _, _, _, rfl, ?_⟩
  have e3 : zrow (p + 12 + hd + tx) 16 (fun t => tag' (0 + t)) c1 = zrow (p + 12 + hd + tx) 16 (fun j => sB (gTagS (aesE rk R) m p hd tx j)) c1 := zrow_congr (fun j hj => by rw [Nat.zero_add]; exact g2' j hj)
  rw [e3]
  exact RB_row g1'
set_option maxHeartbeats 8000000 in
theorem p_X2_openText {N p hd tx R : Nat} {keys rk c m : Rw} (q1 q2 q3 q4 : Int64) (mb mp tag : Rw) (h : RB N c m) (u : isU8 m N) (hp : p + 12 + hd + tx + 16 ≤ N) (hN : N ≤ 1500) (h1 : 1 ≤ R) (hR : R ≤ 14) (hk : ∀ t, t < 16 * (R + 1) → kB keys t = rk t) (uk : isU8 rk (16 * (R + 1))) :
    ∃ r a b s t mb' mp' tag' c', f_X2_openText N (nI p) (nI hd) (nI tx) q1 q2 q3 q4 (nI R) keys mb mp tag c = some (r, a, b, s, t, mb', mp', tag', c') ∧ ((r = 1 ∧ gOk (aesE rk R) m p hd tx ∧ RB N c' (gTx (aesE rk R) m p hd tx)) ∨ (r = 0 ∧ ¬ gOk (aesE rk R) m p hd tx ∧ c' = c)) := by
  obtain ⟨b1, p1, c1, e1, g1⟩ := p_X4_addNonceStream (p := p) (a := p + 12 + hd) (n := tx) mb mp h u (by omega) (by omega) hN h1 hR hk uk
  obtain ⟨a, b, s, t, tag', e2, g2⟩ := p_X2_findTag (p := p) (hd := hd) (tx := tx) q1 q2 q3 q4 tag h u (by omega) hN h1 hR hk uk
  obtain ⟨r, e3, g3⟩ := p_X9_alike (N0 := 16) (N2 := N) (p := 0) (q := p + 12 + hd + tx) (n := 16) (c0 := tag') (c2 := c) (m0 := gTagO (aesE rk R) m p hd tx) (m2 := m) (fun t ht => g2 _ (by omega)) (fun t ht => h _ (by omega)) (fun t ht => gTag_u _ _ _ _ _ _ _ (by omega)) (fun t ht => u _ (by omega)) (by omega) (by omega) (by omega) hN
  simp only [Nat.zero_add] at g3
  have e3' : f_X9_alike 16 N (0 : Int32) (nI (p + 12 + hd + tx)) (16 : Int32) tag' c = some r := e3
  unfold f_X2_openText
  rw [zA, nI_add, znE, e2]
  simp only [zbE]
  rw [nI_add, e3', zbE]
  rcases g3 with ⟨hr, ho⟩ | ⟨hr, ho⟩
  · rw [if_neg (by rw [hr]; decide), e1]
    exact ⟨_, _, _, _, _, _, _, _, _, rfl, Or.inl ⟨rfl, ho, g1⟩⟩
  · rw [if_pos hr]
    exact ⟨_, _, _, _, _, _, _, _, _, rfl, Or.inr ⟨rfl, ho, rfl⟩⟩
/-! GCM in the model -/
theorem l_cb2 {p : Nat} (mb bl : Rw) (K : Rw → Option _) (h : p + 12 ≤ 512) : zl (b_X10_counterBlock_2 (nI p) mb K) zF ((0 : Int32), bl) = K (zrow 0 12 (fun t => mb (p + t)) bl) := by
  refine zl_cpy (F := b_X10_counterBlock_2 (nI p) mb K) 0 12 (fun t => mb (p + t)) bl K (by omega) ?_ ?_
  · intro self f
    simp only [b_X10_counterBlock_2]
    exact if_pos (by decide)
  · intro self i f hi
    simp (disch := omega) only [b_X10_counterBlock_2, zle1, if_neg, nI_add, zCl, zki, zki2, znE, zA, Nat.zero_add, zlt2]
theorem l_cb30 (v : Int32) (bl : Rw) (K : Rw → Option _) : zl (b_X10_counterBlock_30 v K) zF ((0 : Int32), bl) = K (zrow 12 4 (fun t => wB v t) bl) := by
  refine zl_cpy (F := b_X10_counterBlock_30 v K) 12 4 (fun t => wB v t) bl K (by omega) ?_ ?_
  · intro self f
    simp only [b_X10_counterBlock_30]
    exact if_pos (by decide)
  · intro self i f hi
    simp (disch := omega) only [b_X10_counterBlock_30, zle1, if_neg, nI_add, zA2, zM, zS2, zCl, zki, zki2, znE, zA, zlt2]
    rfl
theorem p_X10_counterBlock {p R : Nat} {bx rk mb m : Rw} (v : Int32) (bl o : Rw) (hm : ∀ t, t < 12 → mb (p + t) = m (p + t)) (u : isU8 m 512) (hp : p + 12 ≤ 512) (hbx : ∀ k, k < 256 → bx k = tb_BOX.getD k 0) (hk : isU8 rk (16 * (R + 1))) (h1 : 1 ≤ R) (hR : R ≤ 14) :
    ∃ b' o', f_X10_counterBlock (nI p) v (nI R) bl bx mb o rk = some (b', o') ∧ eq16 b' (aesE rk R (gcB (fun t => m (p + t)) v)) := by
  have hb : eq16 (zrow 12 4 (fun t => wB v t) (zrow 0 12 (fun t => mb (p + t)) bl)) (gcB (fun t => m (p + t)) v) := by
    intro j hj
    unfold gcB
    by_cases hc : j < 12
    · rw [if_pos hc, zrow_out (by omega), zrow_0 hc, hm j hc]
    · rw [if_neg hc, zrow_in (by omega) (by omega)]
  obtain ⟨b2, o2, e2, g2⟩ := p_X10_seal (bx := bx) o (eq16_u hb (gcB_u (fun t ht => u _ (by omega)) v)) hbx hk h1 hR
  refine ⟨b2, o2, ?_, eq16_t g2 (aesE_c hb h1 (fun _ _ => rfl))⟩
  unfold f_X10_counterBlock
  rw [zjE, l_cb2 _ _ _ hp, zjE, l_cb30, e2, zbE]
theorem l_gal35 (bl : Rw) (K : Rw → Option _) : zl (b_X10_galois_35 K) zF ((0 : Int32), bl) = K (zrow 0 16 (fun _ => 0) bl) := by
  refine zl_cpy (F := b_X10_galois_35 K) 0 16 (fun _ => 0) bl K (by omega) ?_ ?_
  · intro self f
    simp only [b_X10_galois_35]
    exact if_pos (by decide)
  · intro self i f hi
    simp (disch := omega) only [b_X10_galois_35, zle1, if_neg, zCl, zki, zki2, znE, zA, Nat.zero_add, zlt2]
theorem l_gal168 {n : Nat} (re bo : Rw) (K : Rw → Option _) (h : n ≤ 512) : zl (b_X10_galois_168 (nI n) re K) zF ((0 : Int32), bo) = K (zrow 0 n re bo) := by
  refine zl_cpy (F := b_X10_galois_168 (nI n) re K) 0 n re bo K (by omega) ?_ ?_
  · intro self f
    simp only [b_X10_galois_168]
    exact if_pos (nI_le (Nat.le_refl _) (by omega))
  · intro self i f hi
    simp (disch := omega) only [b_X10_galois_168, zle, if_neg, zCl, zki, zki2, znE, zA, Nat.zero_add, zlt2]
theorem l_gal240 {n : Nat} (bo re : Rw) (K : Rw → Option _) (h : n ≤ 512) : zl (b_X10_galois_240 (nI n) bo K) zF ((0 : Int32), re) = K (zrow 0 n bo re) := by
  refine zl_cpy (F := b_X10_galois_240 (nI n) bo K) 0 n bo re K (by omega) ?_ ?_
  · intro self f
    simp only [b_X10_galois_240]
    exact if_pos (nI_le (Nat.le_refl _) (by omega))
  · intro self i f hi
    simp (disch := omega) only [b_X10_galois_240, zle, if_neg, zCl, zki, zki2, znE, zA, Nat.zero_add, zlt2]
theorem l_gal198 {p hd : Nat} (mb re : Rw) (K : Rw → Option _) (h : p + 12 + hd ≤ 512) : zl (b_X10_galois_198 (nI p) (nI hd) mb K) zF ((0 : Int32), re) = K (zrow 0 hd (fun t => mb (p + 12 + t)) re) := by
  refine zl_cpy (F := b_X10_galois_198 (nI p) (nI hd) mb K) 0 hd (fun t => mb (p + 12 + t)) re K (by omega) ?_ ?_
  · intro self f
    simp only [b_X10_galois_198]
    exact if_pos (nI_le (Nat.le_refl _) (by omega))
  · intro self i f hi
    simp (disch := omega) only [b_X10_galois_198, zle, if_neg, nI_add, zA, zCl, zki, zki2, znE, Nat.zero_add, zlt2]
set_option maxHeartbeats 4000000 in
theorem l_gal346 {x tx : Nat} (mb : Rw) (K : Int64 → Int64 → Option _) (h : x + tx + 16 ≤ 512) : zl (b_X10_galois_346 mb (nI tx) (nI x) K) zF ((0 : Int64), (0 : Int64), (0 : Int32)) = K (L8 (fun t => mb (x + tx + t))) (L8 (fun t => mb (x + tx + 8 + t))) := by
  refine zl_up (F := b_X10_galois_346 mb (nI tx) (nI x) K) (fun i (s : Int64 × Int64) => (s.1, s.2, nI i)) (fun i s => s.1 = lF (fun t => mb (x + tx + t)) i ∧ s.2 = lF (fun t => mb (x + tx + 8 + t)) i) 0 8 ((0 : Int64), (0 : Int64)) (fun o => o = K (L8 (fun t => mb (x + tx + t))) (L8 (fun t => mb (x + tx + 8 + t)))) (by omega) (by omega) ⟨rfl, rfl⟩ ?_ ?_
  · intro self s hs
    obtain ⟨a, b⟩ := s
    obtain ⟨h1, h2⟩ := hs
    dsimp only at h1 h2
    subst h1 h2
    simp only [b_X10_galois_346]
    exact if_pos (by decide)
  · intro self i s _ hi hs
    obtain ⟨a, b⟩ := s
    obtain ⟨h1, h2⟩ := hs
    dsimp only at h1 h2
    subst h1 h2
    refine ⟨(_, _), ⟨rfl, rfl⟩, ?_⟩
    simp (disch := omega) only [b_X10_galois_346, zle1, if_neg, nI_add, zA, zCl, zki, zki2, znE, zlt2]
theorem upd3_row {x i : Nat} {g h f : Rw} (hi : i < 8) : upd (upd (zrow (x + 8) i g (zrow x i h f)) (x + i) (h i)) (x + 8 + i) (g i) = zrow (x + 8) (i + 1) g (zrow x (i + 1) h f) := by
  funext j
  by_cases h1 : j = x + 8 + i
  · subst h1
    rw [upd_s, zrow_in (by omega) (by omega), show x + 8 + i - (x + 8) = i by omega]
  · rw [upd_n _ _ h1]
    by_cases h2 : j = x + i
    · subst h2
      rw [upd_s, zrow_out (by omega), zrow_in (by omega) (by omega), show x + i - x = i by omega]
    · rw [upd_n _ _ h2]
      by_cases h3 : x + 8 ≤ j ∧ j < x + 8 + i
      · rw [zrow_in h3.1 h3.2, zrow_in h3.1 (by omega)]
      · rw [zrow_out (by omega), zrow_out (a := x + 8) (n := i + 1) (by omega)]
        by_cases h4 : x ≤ j ∧ j < x + i
        · rw [zrow_in h4.1 h4.2, zrow_in h4.1 (by omega)]
        · rw [zrow_out (by omega), zrow_out (by omega)]
set_option maxHeartbeats 4000000 in
theorem l_gal495 {x tx : Nat} (th tl : Int64) (mb : Rw) (K : Rw → Option _) (h : x + tx + 16 ≤ 512) : zl (b_X10_galois_495 1 (nI tx) (nI x) th tl K) zF ((0 : Int32), mb) = K (zrow (x + tx + 8) 8 (lB tl) (zrow (x + tx) 8 (lB th) mb)) := by
  refine zl_up (F := b_X10_galois_495 1 (nI tx) (nI x) th tl K) (fun i (f : Rw) => (nI i, f)) (fun i f => f = zrow (x + tx + 8) i (lB tl) (zrow (x + tx) i (lB th) mb)) 0 8 mb (fun q => q = K (zrow (x + tx + 8) 8 (lB tl) (zrow (x + tx) 8 (lB th) mb))) (by omega) (by omega) (by rw [zrow_n0, zrow_n0]) ?_ ?_
  · intro self f hf
    simp only [b_X10_galois_495]
    rw [hf]
    exact if_pos (by decide)
  · intro self i f _ hi hf
    refine ⟨_, upd3_row (x := x + tx) (g := lB tl) (h := lB th) (f := mb) hi, ?_⟩
    rw [← hf]
    simp (disch := omega) only [b_X10_galois_495, f10, ite_false, zle1, if_neg, nI_add, zM, zS2, zA, zCl, zki, zki2, znE, zlt2]
    rfl
