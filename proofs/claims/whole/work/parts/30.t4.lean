/-! modes: the stream of a counter -/
theorem cpE (f g : Nat → Int32) (p q n : Nat) : va_cpy f g p q n = zrow q n (fun t => f (p + t)) g := rfl
def ctB (b : Nat → Int32) (q : Nat) : Nat → Int32 := fun i => nI (ctb (fun i => vN (b i)) q i)
theorem ctB_u (b : Nat → Int32) (q : Nat) : isU8 (ctB b q) 16 := fun i _ => nI_u (ctb_lt _ _ _)
theorem ctB_next (b : Nat → Int32) (q : Nat) {i : Nat} (hi : i < 16) : nI (ctb (fun i => vN (ctB b q i)) 1 i) = ctB b (q + 1) i := by
  show nI (ctb (fun i => vN (nI (ctb (fun i => vN (b i)) q i))) 1 i) = nI (ctb (fun i => vN (b i)) (q + 1) i)
  rw [ctb_c (t := ctb (fun i => vN (b i)) q) 1 (fun i hi => vN_nI (ctb_lt _ _ _)) hi, ctb_next _ _ hi]
theorem ctB_0 {b : Nat → Int32} (u : isU8 b 16) : eq16 (ctB b 0) b := fun i hi => (congrArg nI (ctb_0 (s := fun i => vN (b i)) (fun i hi => (vN_u (u i hi)).1) i hi)).trans (vN_u (u i hi)).2.symm
theorem ctB_c {b c : Nat → Int32} (h : eq16 b c) (q : Nat) : eq16 (ctB b q) (ctB c q) := fun i hi => congrArg nI (ctb_c q (fun j hj => congrArg vN (h j hj)) hi)
def mn16 (n : Nat) : Nat := if n < 16 then n else 16
def lo16 (n i : Nat) : Nat := if 16 * i ≤ n then 16 * i else n
theorem lo16_0 (n : Nat) : lo16 n 0 = 0 := by
  unfold lo16
  rw [if_pos (by omega)]
theorem lo16_e (n : Nat) : lo16 n ((n + 15) / 16) = n := by
  unfold lo16
  by_cases h : 16 * ((n + 15) / 16) ≤ n
  · rw [if_pos h]; omega
  · rw [if_neg h]
theorem lo16_s {n i : Nat} (h : 16 * i < n) : lo16 n i = 16 * i ∧ lo16 n (i + 1) = 16 * i + mn16 (n - 16 * i) ∧ mn16 (n - 16 * i) ≤ 16 ∧ 16 * i + mn16 (n - 16 * i) ≤ n := by
  unfold lo16 mn16
  refine ⟨?_, ?_, ?_, ?_⟩ <;> (repeat' split) <;> omega
/-- n bytes from a on, with a stream of blocks added -/
def stX (G : Nat → Nat → Int32) (a n : Nat) (m : Nat → Int32) : Nat → Int32 := zrow a n (fun t => m (a + t) ^^^ G (t / 16) (t % 16)) m
theorem stX_0 {G : Nat → Nat → Int32} {a : Nat} {m : Nat → Int32} : stX G a 0 m = m := zrow_n0
theorem stX_u {G : Nat → Nat → Int32} (hG : ∀ i, isU8 (G i) 16) {N a n : Nat} {m : Nat → Int32} (u : isU8 m N) (h : a + n ≤ N) : isU8 (stX G a n m) N :=
  U_row u (fun t ht => xorU (u _ (by omega)) (hG _ _ (by omega)))
theorem stX_glue {G : Nat → Nat → Int32} {a i k : Nat} {m : Nat → Int32} (hk : k ≤ 16) : zrow (a + 16 * i) k (fun t => stX G a (16 * i) m (a + 16 * i + t) ^^^ G i t) (stX G a (16 * i) m) = stX G a (16 * i + k) m := by
  refine zrow_glue (fun j hj => ?_)
  show stX G a (16 * i) m (a + 16 * i + j) ^^^ G i j = m (a + (16 * i + j)) ^^^ G ((16 * i + j) / 16) ((16 * i + j) % 16)
  rw [show (16 * i + j) / 16 = i by omega, show (16 * i + j) % 16 = j by omega, show stX G a (16 * i) m (a + 16 * i + j) = m (a + 16 * i + j) from zrow_out (by omega), Nat.add_assoc]
set_option maxHeartbeats 4000000 in
theorem p_X4_addStreamOfBlock {N a n R : Nat} {keys rk bl b c m : Nat → Int32} (pad : Nat → Int32) (hb : RB 16 bl b) (ub : isU8 b 16) (h : RB N c m) (u : isU8 m N) (ha : a + n ≤ N) (hN : N ≤ 1500) (h1 : 1 ≤ R) (hR : R ≤ 14) (hk : ∀ t, t < 16 * (R + 1) → kB keys t = rk t) (uk : isU8 rk (16 * (R + 1))) :
    ∃ bl' pad' c', f_X4_addStreamOfBlock N (nI a) (nI n) (nI R) keys bl pad c = some (bl', pad', c') ∧ RB N c' (stX (fun i => aesE rk R (ctB b i)) a n m) := by
  obtain ⟨G, hG⟩ : ∃ G : Nat → Nat → Int32, G = fun i => aesE rk R (ctB b i) := ⟨_, rfl⟩
  have uG : ∀ i, isU8 (G i) 16 := fun i => by rw [hG]; exact aesE_u (ctB_u b i) h1 uk
  rw [← hG]
  unfold f_X4_addStreamOfBlock
  rw [zjE]
  refine zl_up (F := b_X4_addStreamOfBlock_3 N (nI a) (nI n) (nI R) keys _) (fun i (s : (Nat → Int32) × (Nat → Int32) × (Nat → Int32)) => (nI (16 * i), s.1, s.2.1, s.2.2)) (fun i s => RB 16 s.1 (ctB b i) ∧ RB N s.2.2 (stX G a (lo16 n i) m)) 0 ((n + 15) / 16) (bl, pad, c) (fun o => ∃ bl' pad' c', o = some (bl', pad', c') ∧ RB N c' (stX G a n m)) (by omega) (by omega) ⟨fun j hj => (hb j hj).trans (congrArg sB (ctB_0 ub j hj).symm), by rw [lo16_0, stX_0]; exact h⟩ ?_ ?_
  · intro self s hs
    obtain ⟨bl, pad, c⟩ := s
    obtain ⟨h2, h3⟩ := hs
    dsimp only at h3
    rw [lo16_e] at h3
    simp only [b_X4_addStreamOfBlock_3]
    rw [if_pos (nI_le (by omega) (by omega))]
    exact ⟨_, _, _, rfl, h3⟩
  · intro self i s _ hi hs
    obtain ⟨bl, pad, c⟩ := s
    obtain ⟨h2, h3⟩ := hs
    dsimp only at h2 h3
    have hi2 : 16 * i < n := by omega
    obtain ⟨l1, l2, l3, l4⟩ := lo16_s hi2
    rw [l1] at h3
    obtain ⟨mn, hmn⟩ : ∃ k, k = mn16 (n - 16 * i) := ⟨_, rfl⟩
    rw [← hmn] at l2 l3 l4
    have hmin : (if nI n - nI (16 * i) < 16 then nI n - nI (16 * i) else 16) = nI mn := by
      rw [pk_sub (by omega), hmn]
      unfold mn16
      by_cases h : n - 16 * i < 16
      · rw [if_pos h, if_pos (show nI (n - 16 * i) < 16 from nI_lt (b := 16) h (by omega))]
      · rw [if_neg h, if_neg (show ¬ nI (n - 16 * i) < 16 from nI_nlt (b := 16) (by omega) (by omega))]
        rfl
    obtain ⟨bl', e4, g4⟩ := p_X4_countUp h2 (ctB_u b i)
    have hp : RB 16 (zrow 0 16 (fun t => bl (0 + t)) pad) (ctB b i) := fun j hj => by rw [zrow_0 hj, Nat.zero_add]; exact h2 j hj
    have e2 := c_enc (a := 0) hp (ctB_u b i) (by omega) (by omega) h1 hR hk
    simp only [Nat.zero_add] at e2
    have eG : aesE rk R (fun t => ctB b i t) = G i := by rw [hG]
    rw [eG] at e2
    have e2' : f_X0_encrypt 16 (0 : Int32) (nI R) keys (zrow 0 16 (fun t => bl t) pad) = some (zrow 0 16 (fun j => sB (G i j)) (zrow 0 16 (fun t => bl t) pad)) := e2
    obtain ⟨pad2, hpad2⟩ : ∃ q, q = zrow 0 16 (fun j => sB (G i j)) (zrow 0 16 (fun t => bl t) pad) := ⟨_, rfl⟩
    have r2 : RB 16 pad2 (G i) := by rw [hpad2]; exact zrow_RB
    rw [← hpad2] at e2'
    have e3 := p_X9_xorBytes (p := 0) (q := a + 16 * i) (n := mn) r2 h3 (by omega) (by omega) (by omega) hN
    simp only [Nat.zero_add] at e3
    have e3' : f_X9_xorBytes 16 N (0 : Int32) (nI (a + 16 * i)) (nI mn) pad2 c = some (zrow (a + 16 * i) mn (fun t => sB (stX G a (16 * i) m (a + 16 * i + t) ^^^ G i t)) c) := e3
    refine ⟨(bl', pad2, zrow (a + 16 * i) mn (fun t => sB (stX G a (16 * i) m (a + 16 * i + t) ^^^ G i t)) c), ⟨fun j hj => (g4 j hj).trans (congrArg sB (ctB_next b i hj)), ?_⟩, ?_⟩
    · show RB N (zrow (a + 16 * i) mn (fun t => sB (stX G a (16 * i) m (a + 16 * i + t) ^^^ G i t)) c) (stX G a (lo16 n (i + 1)) m)
      rw [l2, ← stX_glue l3]
      exact RB_row h3
    · simp only [b_X4_addStreamOfBlock_3]
      rw [if_neg (nI_ge hi2 (by omega))]
      simp (disch := omega) only [hmin, nI_add, zCl, zClk, znE, zA]
      rw [zk_T ⟨by decide, by decide, by decide, by omega, by omega, fun j hj => by rw [Nat.zero_add]; exact RB_fit h2 (by omega)⟩, cpE]
      simp only [Nat.zero_add]
      rw [e2', zbE, e3', zbE, e4, zbE]
      rfl
set_option maxHeartbeats 4000000 in
theorem p_X4_addStream {N p a n R : Nat} {keys rk c m : Nat → Int32} (bl pad : Nat → Int32) (h : RB N c m) (u : isU8 m N) (hp : p + 16 ≤ N) (ha : a + n ≤ N) (hN : N ≤ 1500) (h1 : 1 ≤ R) (hR : R ≤ 14) (hk : ∀ t, t < 16 * (R + 1) → kB keys t = rk t) (uk : isU8 rk (16 * (R + 1))) :
    ∃ bl' pad' c', f_X4_addStream N (nI p) (nI a) (nI n) (nI R) keys bl pad c = some (bl', pad', c') ∧ RB N c' (stX (fun i => aesE rk R (ctB (fun t => m (p + t)) i)) a n m) := by
  obtain ⟨bl', pad', c', e, g⟩ := p_X4_addStreamOfBlock (bl := zrow 0 16 (fun t => c (p + t)) bl) (b := fun t => m (p + t)) pad (fun j hj => by rw [zrow_0 hj]; exact h _ (by omega)) (fun j hj => u _ (by omega)) h u ha hN h1 hR hk uk
  refine ⟨bl', pad', c', ?_, g⟩
  unfold f_X4_addStream
  simp (disch := omega) only [zCl, zClk, znE]
  rw [zk_T ⟨nI_pos (by omega), by decide, by decide, by omega, by omega, fun j hj => RB_fit h (by omega)⟩, cpE, e, zbE]
/-! in the model -/
theorem l_count72 {a p n : Nat} (bl bu : Nat → Int32) (K : (Nat → Int32) → Option (Int32 × (Nat → Int32) × (Nat → Int32) × (Nat → Int32))) (hp : p < n) (h : a + n ≤ 512) : zl (b_X10_count_72 (nI a) (nI n) (nI p) bl K) zF ((0 : Int32), bu) = K (zrow (a + p) (mn16 (n - p)) (fun t => bu (a + p + t) ^^^ bl t) bu) := by
  have hm : mn16 (n - p) ≤ 16 ∧ p + mn16 (n - p) ≤ n ∧ (mn16 (n - p) = 16 ∨ p + mn16 (n - p) = n) := by
    unfold mn16
    refine ⟨?_, ?_, ?_⟩ <;> (repeat' split) <;> omega
  obtain ⟨q, hq⟩ : ∃ q, q = mn16 (n - p) := ⟨_, rfl⟩
  rw [← hq] at hm ⊢
  refine zl_row (F := b_X10_count_72 (nI a) (nI n) (nI p) bl K) (fun i f => (nI i, f)) K (a + p) q (fun t => bu (a + p + t) ^^^ bl t) bu (by omega) ?_ ?_
  · intro self f
    simp only [b_X10_count_72]
    rcases hm.2.2 with h | h
    · rw [h]
      exact if_pos (by decide)
    · rw [nI_add, h]
      by_cases h2 : (16 : Int32) ≤ nI q
      · rw [if_pos h2]
      · rw [if_neg h2, if_pos (nI_le (Nat.le_refl _) (by omega))]
  · intro self i f hi hf
    have e : f (a + p + i) = bu (a + p + i) := hf _ (by omega)
    simp (disch := omega) only [b_X10_count_72, zle1, zle, if_neg, nI_add, zCl, zki, zki2, znE, zA, zlt2, e]
set_option maxHeartbeats 4000000 in
theorem p_X10_count {a n R : Nat} {bx rk mb m : Nat → Int32} (bl o : Nat → Int32) (hm : eqN 512 mb m) (u : isU8 m 512) (ha : a + (16 + n) ≤ 512) (hbx : ∀ k, k < 256 → bx k = tb_BOX.getD k 0) (hk : isU8 rk (16 * (R + 1))) (h1 : 1 ≤ R) (hR : R ≤ 14) :
    ∃ bl' mb' o', f_X10_count (nI a) (nI (16 + n)) (nI R) bl bx mb o rk = some (nI (16 + n), bl', mb', o') ∧ eqN 512 mb' (stX (fun i => aesE rk R (ctB (fun t => m (a + t)) i)) (a + 16) n m) := by
  obtain ⟨G, hG⟩ : ∃ G : Nat → Nat → Int32, G = fun i => aesE rk R (ctB (fun t => m (a + t)) i) := ⟨_, rfl⟩
  have uG : ∀ i, isU8 (G i) 16 := fun i => by rw [hG]; exact aesE_u (ctB_u _ i) h1 hk
  rw [← hG]
  unfold f_X10_count
  rw [zjE]
  refine zl_up (F := b_X10_count_3 (nI a) (nI (16 + n)) (nI R) bx rk _) (fun i (s : (Nat → Int32) × (Nat → Int32) × (Nat → Int32)) => (nI (16 * (i + 1)), s.1, s.2.1, s.2.2)) (fun i s => eqN 512 s.2.1 (stX G (a + 16) (lo16 n i) m)) 0 ((n + 15) / 16) (bl, mb, o) (fun q => ∃ bl' mb' o', q = some (nI (16 + n), bl', mb', o') ∧ eqN 512 mb' (stX G (a + 16) n m)) (by omega) (by omega) (by rw [lo16_0, stX_0]; exact hm) ?_ ?_
  · intro self s hs
    obtain ⟨bl, mb, o⟩ := s
    dsimp only at hs
    rw [lo16_e] at hs
    simp only [b_X10_count_3]
    rw [if_pos (nI_le (by omega) (by omega))]
    exact ⟨_, _, _, rfl, hs⟩
  · intro self i s _ hi hs
    obtain ⟨bl, mb, o⟩ := s
    dsimp only at hs
    have hi2 : 16 * i < n := by omega
    obtain ⟨l1, l2, l3, l4⟩ := lo16_s hi2
    rw [l1] at hs
    have hu := stX_u uG (a := a + 16) (n := 16 * i) u (show a + 16 + 16 * i ≤ 512 by omega)
    simp only [b_X10_count_3]
    rw [if_neg (nI_ge (by omega) (by omega)), zkn (by decide) (by decide), zDv (by omega) (by decide) (by decide), zS (by omega), znE, zjE]
    rw [show 16 * (i + 1) / 16 - 1 = i by omega]
    refine l_count20 (a := a) (q := i) bl _ (fun q => ∃ s' : (Nat → Int32) × (Nat → Int32) × (Nat → Int32), eqN 512 s'.2.1 (stX G (a + 16) (lo16 n (i + 1)) m) ∧ q = self (nI (16 * (i + 1 + 1)), s'.1, s'.2.1, s'.2.2)) (by omega) hs hu (by omega) ?_
    intro b' hb'
    have hb2 : eq16 b' (ctB (fun t => m (a + t)) i) := eq16_t hb' (ctB_c (b := fun t => stX G (a + 16) (16 * i) m (a + t)) (fun j hj => zrow_out (by omega)) i)
    obtain ⟨b2, o', e2, g⟩ := p_X10_seal (bx := bx) o (eq16_u hb2 (ctB_u _ i)) hbx hk h1 hR
    have g2 : eq16 b2 (G i) := eq16_t g (by rw [hG]; exact aesE_c hb2 h1 (fun _ _ => rfl))
    rw [e2]
    simp only [zbE]
    rw [zjE, l_count72 _ _ _ (by omega) (by omega), zA]
    refine ⟨(b2, zrow (a + 16 * (i + 1)) (mn16 (16 + n - 16 * (i + 1))) (fun t => mb (a + 16 * (i + 1) + t) ^^^ b2 t) mb, o'), ?_, rfl⟩
    show eqN 512 (zrow (a + 16 * (i + 1)) (mn16 (16 + n - 16 * (i + 1))) (fun t => mb (a + 16 * (i + 1) + t) ^^^ b2 t) mb) _
    rw [l2, ← stX_glue l3, show 16 + n - 16 * (i + 1) = n - 16 * i by omega, show a + 16 * (i + 1) = a + 16 + 16 * i by omega]
    refine eqN_row hs (fun j hj => ?_)
    rw [hs _ (by omega), g2 j (by omega)]
