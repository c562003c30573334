/-! the generator in the class: one request -/
def drO (K V : Nat → Int32) : Nat → (Nat → Int32)
  | 0 => V
  | q + 1 => drV K (drO K V q)
def drB (K V d : Nat → Int32) (m : Nat) : (Nat → Int32) × (Nat → Int32) := if m = 0 then (K, V) else drU K V d m
/-- the bytes of the answer -/
def drG (K V d : Nat → Int32) (m t : Nat) : Int32 := drO (drB K V d m).1 (drB K V d m).2 (t / 32 + 1) (t % 32)
/-- the state behind it -/
def drE (K V d : Nat → Int32) (m n : Nat) : (Nat → Int32) × (Nat → Int32) := drU (drB K V d m).1 (drO (drB K V d m).1 (drB K V d m).2 ((n + 31) / 32)) d m
theorem drU_u (K V d : Nat → Int32) (n : Nat) : isU8 (drU K V d n).1 32 ∧ isU8 (drU K V d n).2 32 := by
  unfold drU
  by_cases h : n = 0
  · rw [if_pos h]; exact ⟨hmac_u _ _ _ _, hmac_u _ _ _ _⟩
  · rw [if_neg h]; exact ⟨hmac_u _ _ _ _, hmac_u _ _ _ _⟩
theorem drB_u {K V : Nat → Int32} (d : Nat → Int32) (m : Nat) (uK : isU8 K 32) (uV : isU8 V 32) : isU8 (drB K V d m).1 32 ∧ isU8 (drB K V d m).2 32 := by
  unfold drB
  by_cases h : m = 0
  · rw [if_pos h]; exact ⟨uK, uV⟩
  · rw [if_neg h]; exact drU_u _ _ _ _
theorem drO_u {K V : Nat → Int32} (uV : isU8 V 32) : ∀ q, isU8 (drO K V q) 32
  | 0 => uV
  | _ + 1 => hmac_u _ _ _ _
theorem zrow_cpy {a k n : Nat} {G f v : Nat → Int32} (h : ∀ j, j < n → v j = G (k + j)) : va_cpy v (zrow a k G f) 0 (a + k) n = zrow a (k + n) G f := by
  funext j
  rcases (show (a ≤ j ∧ j < a + k) ∨ (a + k ≤ j ∧ j < a + k + n) ∨ j < a ∨ a + k + n ≤ j by omega) with ⟨h1, h2⟩ | ⟨h1, h2⟩ | h1
  · rw [pk_cpy_out (by omega), zrow_in h1 h2, zrow_in h1 (by omega)]
  · rw [pk_cpy_in h1 h2, zrow_in (by omega) (by omega), Nat.zero_add, h _ (by omega), show k + (j - (a + k)) = j - a by omega]
  · rw [pk_cpy_out (by omega), zrow_out (by omega), zrow_out (by omega)]
set_option maxHeartbeats 8000000 in
theorem p_X3_loop {N3 a n : Nat} {K V key val : Nat → Int32} (KK : Int32 → (Nat → Int32) → (Nat → Int32) → (Nat → Int32) → Int32 → (Nat → Int32) → (Nat → Int32) → Option (Int32 × (Nat → Int32) × (Nat → Int32) × Int32 × Int32 × (Nat → Int32) × (Nat → Int32) × (Nat → Int32) × (Nat → Int32) × (Nat → Int32)))
    (P : Option (Int32 × (Nat → Int32) × (Nat → Int32) × Int32 × Int32 × (Nat → Int32) × (Nat → Int32) × (Nat → Int32) × (Nat → Int32) × (Nat → Int32)) → Prop)
    (fl tot : Int32) (inner sc su ca3 : Nat → Int32) (hK : RB 32 key K) (hV : RB 32 val V) (uK : isU8 K 32) (uV : isU8 V 32) (hn : a + n ≤ N3) (hN : N3 ≤ 1500)
    (hKK : ∀ fl inner sc su tot val', RB 32 val' (drO K V ((n + 31) / 32)) → P (KK fl inner sc su tot val' (zrow a n (fun t => sB (drO K V (t / 32 + 1) (t % 32))) ca3))) :
    P (zl (b_X3_answer_13 N3 (nI a) (nI n) key KK) zF ((0 : Int32), fl, inner, sc, su, tot, val, ca3)) := by
  obtain ⟨G, hG⟩ : ∃ G : Nat → Int32, G = fun t => sB (drO K V (t / 32 + 1) (t % 32)) := ⟨_, rfl⟩
  rw [← hG] at hKK
  refine zl_up (F := b_X3_answer_13 N3 (nI a) (nI n) key KK) (fun q (s : Int32 × (Nat → Int32) × (Nat → Int32) × (Nat → Int32) × Int32 × (Nat → Int32) × (Nat → Int32)) => (nI (32 * q), s.1, s.2.1, s.2.2.1, s.2.2.2.1, s.2.2.2.2.1, s.2.2.2.2.2.1, s.2.2.2.2.2.2)) (fun q s => RB 32 s.2.2.2.2.2.1 (drO K V q) ∧ s.2.2.2.2.2.2 = zrow a (if 32 * q ≤ n then 32 * q else n) G ca3) 0 ((n + 31) / 32) (fl, inner, sc, su, tot, val, ca3) P (by omega) (by omega) ⟨hV, by rw [if_pos (by omega)]; exact zrow_n0.symm⟩ ?_ ?_
  · intro self s hs
    obtain ⟨fl, inner, sc, su, tot, val, c3⟩ := s
    obtain ⟨h1, h2⟩ := hs
    dsimp only at h1 h2
    subst h2
    simp only [b_X3_answer_13]
    rw [if_pos (nI_le (by omega) (by omega))]
    have e : (if 32 * ((n + 31) / 32) ≤ n then 32 * ((n + 31) / 32) else n) = n := by
      by_cases h : 32 * ((n + 31) / 32) ≤ n
      · rw [if_pos h]; omega
      · rw [if_neg h]
    rw [e]
    exact hKK _ _ _ _ _ _ h1
  · intro self q s _ hq hs
    obtain ⟨fl, inner, sc, su, tot, val, c3⟩ := s
    obtain ⟨h1, h2⟩ := hs
    dsimp only at h1 h2
    subst h2
    have hq2 : 32 * q < n := by omega
    rw [if_pos (show 32 * q ≤ n by omega)]
    obtain ⟨in2, s2, u2, v2, e2, g2⟩ := p_X3_macV (key := key) (val := val) fl tot inner sc su hK h1 uK (drO_u uV q)
    have hmin : (if nI n - nI (32 * q) < 32 then nI n - nI (32 * q) else 32) = nI (if n - 32 * q < 32 then n - 32 * q else 32) := by
      rw [pk_sub (by omega)]
      by_cases h : n - 32 * q < 32
      · rw [if_pos h, if_pos (show nI (n - 32 * q) < 32 from nI_lt (b := 32) h (by omega))]
      · rw [if_neg h, if_neg (show ¬ nI (n - 32 * q) < 32 from nI_nlt (b := 32) (by omega) (by omega))]
        rfl
    obtain ⟨mn, hmn⟩ : ∃ k, k = (if n - 32 * q < 32 then n - 32 * q else 32) := ⟨_, rfl⟩
    have hm1 : mn ≤ 32 ∧ 32 * q + mn ≤ n ∧ (32 * (q + 1) ≤ n → mn = 32) ∧ (¬ 32 * (q + 1) ≤ n → 32 * q + mn = n) := by
      by_cases h : n - 32 * q < 32
      · rw [if_pos h] at hmn; omega
      · rw [if_neg h] at hmn; omega
    rw [← hmn] at hmin
    have hcp : va_cpy v2 (zrow a (32 * q) G ca3) 0 (a + 32 * q) mn = zrow a (32 * q + mn) G ca3 := zrow_cpy (fun j hj => by
      rw [g2 j (by omega), hG]
      show sB (drO K V (q + 1) j) = sB (drO K V ((32 * q + j) / 32 + 1) ((32 * q + j) % 32))
      rw [show (32 * q + j) / 32 = q by omega, show (32 * q + j) % 32 = j by omega])
    refine ⟨(0, in2, s2, u2, 96, v2, zrow a (32 * q + mn) G ca3), ⟨g2, ?_⟩, ?_⟩
    · show zrow a (32 * q + mn) G ca3 = zrow a (if 32 * (q + 1) ≤ n then 32 * (q + 1) else n) G ca3
      by_cases h : 32 * (q + 1) ≤ n
      · rw [if_pos h, hm1.2.2.1 h]
        congr 1
      · rw [if_neg h, hm1.2.2.2 h]
    · simp only [b_X3_answer_13]
      rw [if_neg (nI_ge hq2 (by omega)), e2, zbE]
      simp (disch := omega) only [hmin, nI_add, zCl, zClk, znE, zA]
      rw [zk_T ⟨by decide, nI_pos (by omega), nI_pos (by omega), by omega, by omega, fun j hj => by rw [Nat.zero_add]; exact RB_fit g2 (by omega)⟩, hcp]
      rfl
set_option maxHeartbeats 8000000 in
theorem p_X3_answer {N1 N3 m a n : Nat} {K V d key val ca1 : Nat → Int32} (rq : Int32) (msg : Nat → Int32) (fl tot : Int32) (inner sc su ca3 : Nat → Int32) (hK : RB 32 key K) (hV : RB 32 val V) (uK : isU8 K 32) (uV : isU8 V 32) (hd : RB m ca1 d) (ud : isU8 d m) (hm : m ≤ 64) (hm2 : m ≤ N1) (hn : a + n ≤ N3) (hN : N3 ≤ 1500) :
    ∃ key' msg' inner' sc' su' val', f_X3_answer N1 N3 (nI m) (nI a) (nI n) rq key msg fl tot inner sc su val ca1 ca3 = some (rq + 1, key', msg', 0, 96, inner', sc', su', val', zrow a n (fun t => sB (drG K V d m t)) ca3) ∧ RB 32 key' (drE K V d m n).1 ∧ RB 32 val' (drE K V d m n).2 := by
  have ub := drB_u (V := V) d m uK uV
  have key1 : ∀ (key1 msg1 val1 : Nat → Int32) (fl : Int32) (inner sc su : Nat → Int32) (tot : Int32), RB 32 key1 (drB K V d m).1 → RB 32 val1 (drB K V d m).2 →
      (fun o => ∃ key' msg' inner' sc' su' val', o = some (rq + 1, key', msg', 0, 96, inner', sc', su', val', zrow a n (fun t => sB (drG K V d m t)) ca3) ∧ RB 32 key' (drE K V d m n).1 ∧ RB 32 val' (drE K V d m n).2)
      (zl (b_X3_answer_13 N3 (nI a) (nI n) key1 (fun c_sha_filled_18 c_sha_inner_19 c_sha_schedule_20 c_sha_sums_21 c_sha_total_22 c_value_23 ca3_24 => (f_X3_update N1 (nI m) key1 msg1 c_sha_filled_18 c_sha_total_22 c_sha_inner_19 c_sha_schedule_20 c_sha_sums_21 c_value_23 ca1).bind (fun (c_key_26, c_message_27, c_sha_filled_28, c_sha_total_29, c_sha_inner_30, c_sha_schedule_31, c_sha_sums_32, c_value_33) => zn (rq + (1 : Int32)) (fun x_34 => some (x_34, c_key_26, c_message_27, c_sha_filled_28, c_sha_total_29, c_sha_inner_30, c_sha_schedule_31, c_sha_sums_32, c_value_33, ca3_24))))) zF ((0 : Int32), fl, inner, sc, su, tot, val1, ca3)) := by
    intro key1 msg1 val1 fl inner sc su tot g1 g2
    refine p_X3_loop _ (fun o => ∃ key' msg' inner' sc' su' val', o = some (rq + 1, key', msg', 0, 96, inner', sc', su', val', zrow a n (fun t => sB (drG K V d m t)) ca3) ∧ RB 32 key' (drE K V d m n).1 ∧ RB 32 val' (drE K V d m n).2) fl tot inner sc su ca3 g1 g2 ub.1 ub.2 hn hN ?_
    intro fl inner sc su tot val2 g3
    obtain ⟨k4, m4, i4, s4, u4, v4, e4, g4, g5⟩ := p_X3_update (N := N1) (n := m) msg1 fl tot inner sc su g1 g3 ub.1 (drO_u ub.2 _) hd ud hm hm2
    simp only [e4, zbE, znE]
    exact ⟨k4, m4, i4, s4, u4, v4, rfl, g4, g5⟩
  unfold f_X3_answer
  rw [zjE]
  by_cases h0 : m = 0
  · have eb : drB K V d m = (K, V) := if_pos h0
    rw [if_pos (by rw [h0]; decide)]
    simp only [zjE]
    exact key1 key msg val fl inner sc su tot (by rw [eb]; exact hK) (by rw [eb]; exact hV)
  · have eb : drB K V d m = drU K V d m := if_neg h0
    obtain ⟨k1, m1, i1, s1, u1, v1, e1, g1, g2⟩ := p_X3_update (N := N1) (n := m) msg fl tot inner sc su hK hV uK uV hd ud hm hm2
    rw [if_neg (nI_nle (by omega) (by omega)), e1]
    simp only [zbE, zjE]
    exact key1 k1 m1 v1 0 i1 s1 u1 96 (by rw [eb]; exact g1) (by rw [eb]; exact g2)
theorem p_J7_fillB {N : Nat} (v : Int32) (f : Nat → Int32) (hv : v.toInt8.toInt32 = v) (hN : N ≤ 1500) : f_J7_fill_031fb N v f = some (zrow 0 N (fun _ => v) f) := by
  have e0 : Int32.ofNat N = nI N := rfl
  have ev : vp_nar .byte v = v := by
    have := pk_vb v
    rw [hv] at this
    exact this
  unfold f_J7_fill_031fb
  rw [znE, zjE, e0]
  refine zl_cpy (F := b_J7_fill_031fb_5 N v (nI N) (fun q => some q)) 0 N (fun _ => v) f (fun q => some q) (by omega) ?_ ?_
  · intro self f
    simp only [b_J7_fill_031fb_5]
    exact if_pos (nI_le (Nat.le_refl _) (by omega))
  · intro self i f hi
    simp (disch := omega) only [b_J7_fill_031fb_5, zle, if_neg, zCl, zki, zki2, znE, zA, Nat.zero_add, zlt2, ev]
set_option maxHeartbeats 4000000 in
theorem p_X3_feed {N n : Nat} {K V d key val ca : Nat → Int32} (bg rq : Int32) (msg : Nat → Int32) (fl tot : Int32) (inner sc su : Nat → Int32) (hK : ¬ bg = 0 → RB 32 key K) (hV : ¬ bg = 0 → RB 32 val V) (uK : isU8 K 32) (uV : isU8 V 32) (hd : RB n ca d) (ud : isU8 d n) (hn : n ≤ 64) (hN : n ≤ N) (h0 : 0 < n) :
    ∃ key' msg' inner' sc' su' val', f_X3_feed N (nI n) bg rq key msg fl tot inner sc su val ca = some ((if bg = 0 then 1 else bg), 0, key', msg', 0, 96, inner', sc', su', val') ∧ RB 32 key' (drU (if bg = 0 then (fun _ => 0) else K) (if bg = 0 then (fun _ => 1) else V) d n).1 ∧ RB 32 val' (drU (if bg = 0 then (fun _ => 0) else K) (if bg = 0 then (fun _ => 1) else V) d n).2 := by
  unfold f_X3_feed
  rw [if_neg (nI_ne0 h0 (by omega))]
  by_cases hb : bg = 0
  · rw [if_pos hb, if_pos hb, if_pos hb, if_pos hb, p_J7_fillB 0 key (by decide) (by omega), zbE, p_J7_fillB 1 val (by decide) (by omega), zbE]
    obtain ⟨k4, m4, i4, s4, u4, v4, e4, g4, g5⟩ := p_X3_update (N := N) (n := n) (K := fun _ => 0) (V := fun _ => 1) (key := zrow 0 32 (fun _ => 0) key) (val := zrow 0 32 (fun _ => 1) val) msg fl tot inner sc su (fun j hj => (zrow_0 hj).trans (show (0 : Int32) = sB 0 by decide)) (fun j hj => (zrow_0 hj).trans (show (1 : Int32) = sB 1 by decide)) (fun _ _ => show (0 : Int32) &&& 255 = 0 by decide) (fun _ _ => show (1 : Int32) &&& 255 = 1 by decide) hd ud hn hN
    simp only [e4, zbE]
    exact ⟨k4, m4, i4, s4, u4, v4, rfl, g4, g5⟩
  · rw [if_neg hb, if_neg hb, if_neg hb, if_neg hb]
    obtain ⟨k4, m4, i4, s4, u4, v4, e4, g4, g5⟩ := p_X3_update (N := N) (n := n) msg fl tot inner sc su (hK hb) (hV hb) uK uV hd ud hn hN
    simp only [e4, zbE]
    exact ⟨k4, m4, i4, s4, u4, v4, rfl, g4, g5⟩
