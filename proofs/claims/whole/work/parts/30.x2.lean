/-! the self tests: rows that are put, keys that are set, answers that stand -/
def Bt (n : Nat) (w : Rw) : Prop := ∃ m, RB n w m ∧ isU8 m n
def ptR (tf : Nat → Int64) : Rw := fun j => lB (tf (j / 8)) (j % 8)
theorem ptR_u (tf : Nat → Int64) (n : Nat) : isU8 (ptR tf) n := fun j _ => lB_u _ (Nat.mod_lt _ (by decide))
theorem p_X6_put {t n a : Nat} (tf : Nat → Int64) (w : Rw) (h : a + 8 * n ≤ 64) : f_X6_put t tf n (nI a) w = some (zrow a (8 * n) (fun j => sB (ptR tf j)) w) := by
  unfold f_X6_put
  rw [zjE]
  refine zl_up (F := b_X6_put_2 tf n (nI a) _) (fun i (s : Rw) => (nI i, s)) (fun i s => s = zrow a (8 * i) (fun j => sB (ptR tf j)) w) 0 n w (fun o => o = some (zrow a (8 * n) (fun j => sB (ptR tf j)) w)) (by omega) (by omega) zrow_n0.symm ?_ ?_
  · intro self s hs
    simp only [b_X6_put_2]
    rw [if_pos (show Int32.ofNat n ≤ nI n from nI_le (Nat.le_refl _) (by omega)), hs]
  · intro self i s _ hi hs
    simp only [b_X6_put_2]
    rw [if_neg (show ¬ Int32.ofNat n ≤ nI i from nI_ge hi (by omega)), zk_T (nI_in hi (by omega)), nI_clamp (by omega), zM, nI_add, p_X9_putLong _ _ (by omega) (by omega), zbE, zA]
    refine ⟨_, ?_, rfl⟩
    rw [hs, show 8 * (i + 1) = 8 * i + 8 by omega]
    refine zrow_glue (fun j hj => ?_)
    unfold ptR
    rw [show (8 * i + j) / 8 = i by omega, show (8 * i + j) % 8 = j by omega]
theorem p_X6_setKey {t n nk : Nat} (tf : Nat → Int64) (rd : Int32) (ak key : Rw) (hnk : nk = 4 ∨ nk = 8) (h : 4 * nk ≤ 8 * n) (hn : n ≤ 100) :
    ∃ ak' key', f_X6_setKey t tf n (nI (4 * nk)) rd ak key = some (nI (nk + 6), ak', key') ∧ kxP nk (4 * (nk + 7)) (kB ak') ∧ ∀ t, t < 4 * nk → kB ak' t = ptR tf t := by
  obtain ⟨q, hq⟩ : ∃ q, 4 * nk = 8 * q := ⟨nk / 2, by omega⟩
  unfold f_X6_setKey
  rw [zjE]
  refine zl_up (F := b_X6_setKey_2 tf n (nI (4 * nk)) _) (fun i (s : Rw) => (nI i, s)) (fun i s => s = zrow 0 (8 * i) (fun j => sB (ptR tf j)) key) 0 q key (fun o => ∃ ak' key', o = some (nI (nk + 6), ak', key') ∧ kxP nk (4 * (nk + 7)) (kB ak') ∧ ∀ t, t < 4 * nk → kB ak' t = ptR tf t) (by omega) (by omega) zrow_n0.symm ?_ ?_
  · intro self s hs
    simp only [b_X6_setKey_2]
    rw [zM, if_pos (nI_le (by omega) (by omega))]
    obtain ⟨ak', e, g1, g2⟩ := p_X0_setKey (N := 32) hnk rd ak s (by omega) (by omega)
    rw [e, zbE]
    refine ⟨ak', s, rfl, g1, fun t ht => ?_⟩
    rw [g2 t ht, hs, zrow_0 (by omega), sB_and]
    exact ptR_u tf (t + 1) t (by omega)
  · intro self i s _ hi hs
    simp only [b_X6_setKey_2]
    rw [zM, if_neg (nI_ge (by omega) (by omega)), zk_T (nI_in (show i < n by omega) (by omega)), nI_clamp (by omega), p_X9_putLong _ _ (by omega) (by omega), zbE, zA]
    refine ⟨_, ?_, rfl⟩
    rw [hs, show 8 * (i + 1) = 8 * i + 8 by omega, show (8 * i : Nat) = 0 + 8 * i by omega]
    rw [show 0 + 8 * i + 8 = 8 * i + 8 by omega, show zrow 0 (0 + 8 * i) (fun j => sB (ptR tf j)) key = zrow 0 (8 * i) (fun j => sB (ptR tf j)) key by rw [Nat.zero_add]]
    refine zrow_glue (fun j hj => ?_)
    unfold ptR
    rw [show (8 * i + j) / 8 = i by omega, show (8 * i + j) % 8 = j by omega]
theorem p_X6_stands {t n a : Nat} (tf : Nat → Int64) {w m : Rw} (h : a + 8 * n ≤ 64) (hw : RB 64 w m) (u : isU8 m 64) : ∃ r, f_X6_stands t tf n (nI a) w = some r ∧ ((r = 1 ∧ ∀ j, j < 8 * n → m (a + j) = ptR tf j) ∨ (r = 0 ∧ ¬ ∀ j, j < 8 * n → m (a + j) = ptR tf j)) := by
  unfold f_X6_stands
  rw [zjE]
  refine zl_up (F := b_X6_stands_5 tf n (nI a) w _) (fun i (s : Int32) => (s, nI i)) (fun i s => (s = 1 ∧ ∀ j, j < 8 * i → m (a + j) = ptR tf j) ∨ (s = 0 ∧ ¬ ∀ j, j < 8 * n → m (a + j) = ptR tf j)) 0 n (1 : Int32) (fun o => ∃ r, o = some r ∧ ((r = 1 ∧ ∀ j, j < 8 * n → m (a + j) = ptR tf j) ∨ (r = 0 ∧ ¬ ∀ j, j < 8 * n → m (a + j) = ptR tf j))) (by omega) (by omega) (Or.inl ⟨rfl, fun j hj => by omega⟩) ?_ ?_
  · intro self s hs
    simp only [b_X6_stands_5]
    rw [if_pos (show Int32.ofNat n ≤ nI n from nI_le (Nat.le_refl _) (by omega))]
    have e : vp_nar .boolean s = s := by rcases hs with ⟨rfl, -⟩ | ⟨rfl, -⟩ <;> decide
    rw [zk_T e]
    exact ⟨s, rfl, hs⟩
  · intro self i s _ hi hs
    simp only [b_X6_stands_5]
    rw [if_neg (show ¬ Int32.ofNat n ≤ nI i from nI_ge hi (by omega)), zA]
    rcases hs with ⟨rfl, h1⟩ | ⟨rfl, h1⟩
    · rw [if_neg (by decide), zM, nI_add, p_X9_longAt _ (by omega) (by omega), zbE, zk_T (nI_in hi (by omega)), nI_clamp (by omega)]
      have em : ∀ t, t < 8 → w (a + 8 * i + t) &&& 255 = m (a + (8 * i + t)) := fun t ht => by rw [Nat.add_assoc]; exact RB_u hw u (by omega)
      have um : isU8 (fun t => m (a + (8 * i + t))) 8 := fun t ht => u _ (by omega)
      rw [L8_c em]
      have ep : ∀ j, j < 8 → ptR tf (8 * i + j) = lB (tf i) j := fun j hj => by
        unfold ptR
        rw [show (8 * i + j) / 8 = i by omega, show (8 * i + j) % 8 = j by omega]
      by_cases q : L8 (fun t => m (a + (8 * i + t))) = tf i
      · rw [if_pos ((lg0 _ _).mpr q)]
        refine ⟨1, Or.inl ⟨rfl, fun j hj => ?_⟩, rfl⟩
        by_cases hj2 : j < 8 * i
        · exact h1 j hj2
        · obtain ⟨r, hr⟩ : ∃ r, j = 8 * i + r := ⟨j - 8 * i, by omega⟩
          subst hr
          rw [ep r (by omega), ← q, lB_L8 um (by omega)]
      · rw [if_neg (fun z => q ((lg0 _ _).mp z))]
        refine ⟨0, Or.inr ⟨rfl, fun z => q ?_⟩, rfl⟩
        rw [← L8_lB (tf i)]
        exact L8_c (fun j hj => by rw [z _ (by omega), ep j hj])
    · rw [if_pos rfl]
      exact ⟨0, Or.inr ⟨rfl, h1⟩, rfl⟩
theorem sB_flip {x p : Int32} (hp : p = 0 ∨ p = 1) : vp_nar .byte ((sB x ^^^ p).toInt8.toInt32) = sB (x ^^^ p) := by
  have e : p = sB p := by rcases hp with rfl | rfl <;> decide
  rw [pk_vb, e, sB_xor, ← e]
theorem RB_upd {n a : Nat} {w m : Rw} {x : Int32} (h : RB n w m) : RB n (upd w a (sB x)) (upd m a x) := by
  intro j hj
  by_cases q : j = a
  · rw [q, upd_s, upd_s]
  · rw [upd_n _ _ q, upd_n _ _ q]; exact h j hj
theorem U_upd {n a : Nat} {m : Rw} {x : Int32} (h : isU8 m n) (hx : x &&& 255 = x) : isU8 (upd m a x) n := by
  intro j hj
  by_cases q : j = a
  · rw [q, upd_s]; exact hx
  · rw [upd_n _ _ q]; exact h j hj
theorem flip_u {x p : Int32} (hp : p = 0 ∨ p = 1) (h : x &&& 255 = x) : (x ^^^ p) &&& 255 = x ^^^ p := xorU h (by rcases hp with rfl | rfl <;> decide)
theorem answerL : @b_X3_answer_3a1_13 = @b_X3_answer_13 := rfl
set_option maxHeartbeats 8000000 in
theorem p_X3_answerW {N a n : Nat} {K V key val : Nat → Int32} (rq : Int32) (msg : Nat → Int32) (fl tot : Int32) (inner sc su ca : Nat → Int32) (hK : RB 32 key K) (hV : RB 32 val V) (uK : isU8 K 32) (uV : isU8 V 32) (hn : a + n ≤ N) (hN : N ≤ 1500) :
    ∃ key' msg' inner' sc' su' val', f_X3_answer_3a1 N 0 (nI a) (nI n) rq key msg fl tot inner sc su val ca = some (rq + 1, key', msg', 0, 96, inner', sc', su', val', zrow a n (fun t => sB (drO K V (t / 32 + 1) (t % 32))) ca) := by
  unfold f_X3_answer_3a1
  rw [zjE, if_pos (by decide)]
  simp only [zjE]
  rw [answerL]
  refine p_X3_loop _ (fun o => ∃ key' msg' inner' sc' su' val', o = some (rq + 1, key', msg', 0, 96, inner', sc', su', val', zrow a n (fun t => sB (drO K V (t / 32 + 1) (t % 32))) ca)) fl tot inner sc su ca hK hV uK uV hn hN ?_
  intro fl inner sc su tot val2 g3
  obtain ⟨k4, m4, i4, s4, u4, v4, e4, g4, g5⟩ := p_X3_update (N := N) (n := 0) (d := fun _ => 0) (ca := zrow a n (fun t => sB (drO K V (t / 32 + 1) (t % 32))) ca) msg fl tot inner sc su hK g3 uK (drO_u uV _) (fun j hj => by omega) (fun j hj => by omega) (by omega) (by omega)
  have e4' : f_X3_update N 0 key msg fl tot inner sc su val2 (zrow a n (fun t => sB (drO K V (t / 32 + 1) (t % 32))) ca) = some (k4, m4, 0, 96, i4, s4, u4, v4) := e4
  exact ⟨k4, m4, i4, s4, u4, v4, by simp only [e4', zbE, znE]⟩
