/-! the generator in the model: one request -/
abbrev GS := Rw × Rw × Rw × Rw × Rw × Rw × Int32 × Int64 × Rw × Rw × Rw
set_option maxHeartbeats 8000000 in
theorem l_gen122 {RO ST : Rw} (hR : ∀ j, j < 64 → RO j = tb_CONSTANTS.getD j 0) (hST : ∀ j, j < 8 → ST j = tb_BEGINNING.getD j 0) {n : Nat} {k v K V : Rw} (KK : Rw → Rw → Rw → Rw → Rw → Rw → Int32 → Int64 → Rw → Rw → Rw → Option _) (P : Option _ → Prop) (hk : eqN 32 k K) (hv : eqN 32 v V) (uK : isU8 K 32) (uV : isU8 V 32) (hn : n ≤ 256) (dg h inn m re sec : Rw) (scs : Int32) (tot : Int64) (w x : Rw)
    (hKK : ∀ dg h inn m re' sec scs tot v' w x, eqN 32 v' (drO K V ((n + 31) / 32)) → (∀ t, t < n → re' (64 + t) = drO K V (t / 32 + 1) (t % 32)) → (∀ t, t < 64 → re' t = re t) → P (KK dg h inn m re' sec scs tot v' w x)) :
    P (zl (b_X10_generate_122 (nI n) RO ST k KK) zF ((0 : Int32), dg, h, inn, m, re, sec, scs, tot, v, w, x)) := by
  refine zl_up (F := b_X10_generate_122 (nI n) RO ST k KK) (fun i (s : GS) => (nI i, s)) (fun i s => eqN 32 s.2.2.2.2.2.2.2.2.1 (drO K V ((i + 31) / 32)) ∧ (∀ t, t < i → s.2.2.2.2.1 (64 + t) = drO K V (t / 32 + 1) (t % 32)) ∧ (∀ t, t < 64 → s.2.2.2.2.1 t = re t)) 0 n (dg, h, inn, m, re, sec, scs, tot, v, w, x) P (by omega) (by omega) ⟨by show eqN 32 v (drO K V ((0 + 31) / 32)); rw [show (0 + 31) / 32 = 0 by omega]; exact hv, fun t ht => by omega, fun t _ => rfl⟩ ?_ ?_
  · intro self s hs
    obtain ⟨dg, h, inn, m, re, sec, scs, tot, v, w, x⟩ := s
    obtain ⟨h1, h2, h3⟩ := hs
    simp only [b_X10_generate_122]
    rw [if_pos (nI_le (Nat.le_refl _) (by omega))]
    exact hKK _ _ _ _ _ _ _ _ _ _ _ h1 h2 h3
  · intro self i s _ hi hs
    obtain ⟨dg, h, inn, m, re2, sec, scs, tot, v2, w, x⟩ := s
    obtain ⟨h1, h2, h3⟩ := hs
    dsimp only at h1 h2 h3
    have hmod : nI i - nI i / (32 : Int32) * (32 : Int32) = nI (i % 32) := nI_mod (n := 32) (by omega) (by omega) (by omega)
    have fin : ∀ (dg h inn m sec : Rw) (scs : Int32) (tot : Int64) (v3 w x : Rw), eqN 32 v3 (drO K V (i / 32 + 1)) → ∃ s' : GS, (eqN 32 s'.2.2.2.2.2.2.2.2.1 (drO K V ((i + 1 + 31) / 32)) ∧ (∀ t, t < i + 1 → s'.2.2.2.2.1 (64 + t) = drO K V (t / 32 + 1) (t % 32)) ∧ (∀ t, t < 64 → s'.2.2.2.2.1 t = re t)) ∧ zk (¬ (32 : Int32) = 0) (zk (¬ (nI (i % 32) < 0 ∨ 32 ≤ (nI (i % 32)).toNatClampNeg)) (zk (¬ (((64 : Int32) + nI i) < 0 ∨ 600 ≤ ((64 : Int32) + nI i).toNatClampNeg)) (zn ((upd re2 ((64 : Int32) + nI i).toNatClampNeg (v3 (nI (i % 32)).toNatClampNeg)) : Nat → Int32) (fun c_result_86 => self ((nI i + (1 : Int32)), dg, h, inn, m, c_result_86, sec, scs, tot, v3, w, x))))) = self (nI (i + 1), s') := by
      intro dg h inn m sec scs tot v3 w x hv3
      refine ⟨(dg, h, inn, m, upd re2 (64 + i) (v3 (i % 32)), sec, scs, tot, v3, w, x), ⟨?_, fun t ht => ?_, fun t ht => ?_⟩, ?_⟩
      · rw [show (i + 1 + 31) / 32 = i / 32 + 1 by omega]
        exact hv3
      · show upd re2 (64 + i) (v3 (i % 32)) (64 + t) = _
        by_cases e : t = i
        · subst e
          rw [upd_s]
          exact hv3 _ (by omega)
        · rw [upd_n _ _ (by omega)]
          exact h2 t (by omega)
      · show upd re2 (64 + i) (v3 (i % 32)) t = _
        rw [upd_n _ _ (by omega)]
        exact h3 t ht
      · rw [zkn (by decide) (by decide)]
        simp (disch := omega) only [zA2, zA, zCl, zki, zki2, znE, zlt2]
    simp only [b_X10_generate_122]
    rw [if_neg (nI_ge hi (by omega)), hmod, zkn (by decide) (by decide)]
    by_cases hz : i % 32 = 0
    · obtain ⟨scs', tot', dg', h', in', m', sec', v', w', x', e, g⟩ := p_X10_nextV hR hST hk h1 uK (drO_u uV _) scs tot dg h inn m sec w x
      rw [if_pos (by rw [hz]; rfl), e]
      simp only [zbE]
      have g' : eqN 32 v' (drO K V (i / 32 + 1)) := by
        show eqN 32 v' (drV K (drO K V (i / 32)))
        rw [show i / 32 = (i + 31) / 32 by omega]
        exact g
      exact fin _ _ _ _ _ _ _ _ _ _ g'
    · rw [if_neg (show ¬ nI (i % 32) = 0 from fun q => hz ((nI_eq (b := 0) (by omega) (by omega)).mp q))]
      exact fin _ _ _ _ _ _ _ _ _ _ (by rw [show i / 32 + 1 = (i + 31) / 32 by omega]; exact h1)
theorem l_gen88 {m : Nat} (bu re : Rw) (K : Rw → Option _) (h : m ≤ 512) : zl (b_X10_generate_88 (nI m) bu K) zF ((0 : Int32), re) = K (zrow 0 m bu re) := by
  refine zl_cpy (F := b_X10_generate_88 (nI m) bu K) 0 m bu re K (by omega) ?_ ?_
  · intro self f
    simp only [b_X10_generate_88]
    exact if_pos (nI_le (Nat.le_refl _) (by omega))
  · intro self i f hi
    simp (disch := omega) only [b_X10_generate_88, zle, if_neg, zCl, zki, zki2, znE, zA, Nat.zero_add, zlt2]
theorem l_gen9 (k v : Rw) (K : Rw → Rw → Option _) : zl (b_X10_generate_9 K) zF ((0 : Int32), k, v) = K (zrow 0 32 (fun _ => 0) k) (zrow 0 32 (fun _ => 1) v) := by
  refine zl_up (F := b_X10_generate_9 K) (fun i (s : Rw × Rw) => (nI i, s)) (fun i s => s.1 = zrow 0 i (fun _ => 0) k ∧ s.2 = zrow 0 i (fun _ => 1) v) 0 32 (k, v) (fun q => q = K (zrow 0 32 (fun _ => 0) k) (zrow 0 32 (fun _ => 1) v)) (by omega) (by omega) ⟨zrow_n0.symm, zrow_n0.symm⟩ ?_ ?_
  · intro self s hs
    obtain ⟨a, b⟩ := s
    obtain ⟨h1, h2⟩ := hs
    dsimp only at h1 h2
    rw [h1, h2]
    simp only [b_X10_generate_9]
    exact if_pos (by decide)
  · intro self i s _ hi hs
    obtain ⟨a, b⟩ := s
    obtain ⟨h1, h2⟩ := hs
    dsimp only at h1 h2
    refine ⟨(upd a i 0, upd b i 1), ⟨?_, ?_⟩, ?_⟩
    · show upd a i 0 = _
      rw [h1]
      have := zrow_s 0 i (fun _ => 0) k
      rw [Nat.zero_add] at this
      exact this
    · show upd b i 1 = _
      rw [h2]
      have := zrow_s 0 i (fun _ => 1) v
      rw [Nat.zero_add] at this
      exact this
    · simp (disch := omega) only [b_X10_generate_9, zle1, if_neg, zCl, zki, zki2, znE, zA, zlt2]
abbrev GR := Int32 × Int32 × Int32 × Int64 × Int32 × Rw × Rw × Rw × Rw × Rw × Rw × Rw × Rw × Rw × Rw × Rw
/-- what stands behind a request: K, V before it (behind the seeding) -/
def gAft (K V bu : Rw) (m n : Nat) (mk rq : Int32) (wds : Int32) (wd : Rw) (o : Option GR) : Prop :=
  ∃ scs tot dg h inn k ms re sec v w x, o = some (mk, rq, scs, tot, wds, dg, h, inn, k, ms, re, sec, v, w, wd, x) ∧ eqN 32 k (drE K V bu m n).1 ∧ eqN 32 v (drE K V bu m n).2 ∧ ∀ t, t < n → re (64 + t) = drG K V bu m t
set_option maxHeartbeats 8000000 in
theorem p_X10_generate {RO ST : Rw} (hR : ∀ j, j < 64 → RO j = tb_CONSTANTS.getD j 0) (hST : ∀ j, j < 8 → ST j = tb_BEGINNING.getD j 0) {n m c : Nat} {mk rq : Int32} {bu k v wd : Rw} (ub : isU8 bu m) (uk : ¬ mk = 0 → isU8 k 32) (uv : ¬ mk = 0 → isU8 v 32) (hn : n ≤ 256) (hm : m ≤ 64) (hc : c ≤ 64) (h12 : mk = 0 → 12 ≤ c) (h8 : ¬ mk = 0 → rq = 64 → 8 ≤ c) (hmk : ¬ mk = 0 → mk = 1) (scs : Int32) (tot : Int64) (dg h inn ms re sec w x : Rw) :
    gAft (if mk = 0 then (drU (fun _ => 0) (fun _ => 1) (shDB wd) 48).1 else if rq = 64 then (drU k v (shDB wd) 32).1 else k) (if mk = 0 then (drU (fun _ => 0) (fun _ => 1) (shDB wd) 48).2 else if rq = 64 then (drU k v (shDB wd) 32).2 else v) bu m n 1 ((if mk = 0 then 0 else if rq = 64 then 0 else rq) + 1) (if mk = 0 then nI (c - 12) else if rq = 64 then nI (c - 8) else nI c) (if mk = 0 then zrow 0 (c - 12) (fun i => wd (i + 12)) wd else if rq = 64 then zrow 0 (c - 8) (fun i => wd (i + 8)) wd else wd)
      (f_X10_generate (nI n) (nI m) mk rq scs tot (nI c) RO ST bu dg h inn k ms re sec v w wd x) := by
  have u255' : ∀ j, shDB wd j &&& 255 = shDB wd j := fun j => and255 _
  have tail : ∀ (K V : Rw), isU8 K 32 → isU8 V 32 → ∀ (rq2 wds : Int32) (wd2 dg h inn k2 ms re sec : Rw) (scs : Int32) (tot : Int64) (v2 w x : Rw), eqN 32 k2 K → eqN 32 v2 V →
      gAft K V bu m n 1 (rq2 + 1) wds wd2 (zj (fun (c_result_20 : Nat → Int32) => zj (fun (c_digest_22 : Nat → Int32) (c_h_23 : Nat → Int32) (c_inner_24 : Nat → Int32) (c_k_25 : Nat → Int32) (c_message_26 : Nat → Int32) (c_secret_27 : Nat → Int32) (c_secrets_28 : Int32) (c_total_29 : Int64) (c_v_30 : Nat → Int32) (c_w_31 : Nat → Int32) (c_x_32 : Nat → Int32) => zj (fun (c_digest_46 : Nat → Int32) (c_h_47 : Nat → Int32) (c_inner_48 : Nat → Int32) (c_message_49 : Nat → Int32) (c_result_50 : Nat → Int32) (c_secret_51 : Nat → Int32) (c_secrets_52 : Int32) (c_total_53 : Int64) (c_v_54 : Nat → Int32) (c_w_55 : Nat → Int32) (c_x_56 : Nat → Int32) => (f_X10_update (nI m) c_secrets_52 c_total_53 RO ST c_digest_46 c_h_47 c_inner_48 c_k_25 c_message_49 c_result_50 c_secret_51 c_v_54 c_w_55 c_x_56).bind (fun (c_secrets_58, c_total_59, c_digest_60, c_h_61, c_inner_62, c_k_63, c_message_64, c_secret_65, c_v_66, c_w_67, c_x_68) => zn ((rq2 + (1 : Int32)) : Int32) (fun x_69 => some ((1 : Int32), x_69, c_secrets_58, c_total_59, wds, c_digest_60, c_h_61, c_inner_62, c_k_63, c_message_64, c_result_50, c_secret_65, c_v_66, c_w_67, wd2, c_x_68)))) (fun K_57 => zl (b_X10_generate_122 (nI n) RO ST c_k_25 K_57) zF ((0 : Int32), c_digest_22, c_h_23, c_inner_24, c_message_26, c_result_20, c_secret_27, c_secrets_28, c_total_29, c_v_30, c_w_31, c_x_32))) (fun K_33 => if (nI m) ≤ 0 then K_33 dg h inn k2 ms sec scs tot v2 w x else (f_X10_update (nI m) scs tot RO ST dg h inn k2 ms c_result_20 sec v2 w x).bind (fun (c_secrets_89, c_total_90, c_digest_91, c_h_92, c_inner_93, c_k_94, c_message_95, c_secret_96, c_v_97, c_w_98, c_x_99) => K_33 c_digest_91 c_h_92 c_inner_93 c_k_94 c_message_95 c_secret_96 c_secrets_89 c_total_90 c_v_97 c_w_98 c_x_99))) (fun K_21 => zl (b_X10_generate_88 (nI m) bu K_21) zF ((0 : Int32), re))) := by
    intro K V uK uV rq2 wds wd2 dg h inn k2 ms re sec scs tot v2 w x hk hv
    rw [zjE, l_gen88 _ _ _ (by omega), zjE]
    obtain ⟨re20, hre20⟩ : ∃ q, q = zrow 0 m bu re := ⟨_, rfl⟩
    have hre : eqN m re20 bu := fun j hj => by rw [hre20, zrow_0 hj]
    rw [← hre20]
    have main : ∀ (dg h inn k3 ms sec : Rw) (scs : Int32) (tot : Int64) (v3 w x : Rw), eqN 32 k3 (drB K V bu m).1 → eqN 32 v3 (drB K V bu m).2 → gAft K V bu m n 1 (rq2 + 1) wds wd2 (zj (fun (c_digest_46 : Nat → Int32) (c_h_47 : Nat → Int32) (c_inner_48 : Nat → Int32) (c_message_49 : Nat → Int32) (c_result_50 : Nat → Int32) (c_secret_51 : Nat → Int32) (c_secrets_52 : Int32) (c_total_53 : Int64) (c_v_54 : Nat → Int32) (c_w_55 : Nat → Int32) (c_x_56 : Nat → Int32) => (f_X10_update (nI m) c_secrets_52 c_total_53 RO ST c_digest_46 c_h_47 c_inner_48 k3 c_message_49 c_result_50 c_secret_51 c_v_54 c_w_55 c_x_56).bind (fun (c_secrets_58, c_total_59, c_digest_60, c_h_61, c_inner_62, c_k_63, c_message_64, c_secret_65, c_v_66, c_w_67, c_x_68) => zn ((rq2 + (1 : Int32)) : Int32) (fun x_69 => some ((1 : Int32), x_69, c_secrets_58, c_total_59, wds, c_digest_60, c_h_61, c_inner_62, c_k_63, c_message_64, c_result_50, c_secret_65, c_v_66, c_w_67, wd2, c_x_68)))) (fun K_57 => zl (b_X10_generate_122 (nI n) RO ST k3 K_57) zF ((0 : Int32), dg, h, inn, ms, re20, sec, scs, tot, v3, w, x))) := by
      intro dg h inn k3 ms sec scs tot v3 w x hk3 hv3
      obtain ⟨uB1, uB2⟩ := drB_u (K := K) (V := V) bu m uK uV
      rw [zjE]
      refine l_gen122 hR hST _ (fun o => gAft K V bu m n 1 (rq2 + 1) wds wd2 o) hk3 hv3 uB1 uB2 hn dg h inn ms re20 sec scs tot w x ?_
      intro dg h inn ms re' sec scs tot v' w x a1 a2 a3
      obtain ⟨scs', tot', dg', h', in', k', m', sec', v'', w', x', e, g1, g2⟩ := p_X10_update (n := m) (d := bu) (res := re') hR hST hk3 a1 uB1 (drO_u uB2 _) (fun j hj => (a3 j (by omega)).trans (hre j hj)) ub hm scs tot dg h inn ms sec w x
      rw [e]
      simp only [zbE, znE]
      exact ⟨_, _, _, _, _, _, _, _, _, _, _, _, rfl, g1, g2, a2⟩
    by_cases hm0 : m = 0
    · rw [if_pos (by rw [hm0]; decide)]
      refine main _ _ _ _ _ _ _ _ _ _ _ ?_ ?_
      · unfold drB; rw [if_pos hm0]; exact hk
      · unfold drB; rw [if_pos hm0]; exact hv
    · obtain ⟨scs', tot', dg', h', in', k', m', sec', v'', w', x', e, g1, g2⟩ := p_X10_update (n := m) (d := bu) (res := re20) hR hST hk hv uK uV hre ub hm scs tot dg h inn ms sec w x
      rw [if_neg (nI_nle (by omega) (by omega)), e]
      simp only [zbE]
      refine main _ _ _ _ _ _ _ _ _ _ _ ?_ ?_
      · unfold drB; rw [if_neg hm0]; exact g1
      · unfold drB; rw [if_neg hm0]; exact g2
  unfold f_X10_generate
  rw [zjE]
  by_cases hmk0 : mk = 0
  · have e2 : f_X10_useWords (12 : Int32) (nI c) re wd = some (nI (c - 12), zrow 0 48 (shDB wd) re, zrow 0 (c - 12) (fun i => wd (i + 12)) wd) := p_X10_useWords (n := 12) re wd (h12 hmk0) hc
    have e3 := p_X10_update (n := 48) (K := fun _ => 0) (V := fun _ => 1) (d := shDB wd) (k := zrow 0 32 (fun _ => 0) k) (v := zrow 0 32 (fun _ => 1) v) (res := zrow 0 48 (shDB wd) re) hR hST (fun j hj => zrow_0 hj) (fun j hj => zrow_0 hj) (fun _ _ => show (0 : Int32) &&& 255 = 0 by decide) (fun _ _ => show (1 : Int32) &&& 255 = 1 by decide) (fun j hj => zrow_0 hj) (fun j _ => u255' j) (by omega) scs tot dg h inn ms sec w x
    obtain ⟨scs', tot', dg', h', in', k', m', sec', v', w', x', e4, g1, g2⟩ := e3
    have e4' : f_X10_update (48 : Int32) scs tot RO ST dg h inn (zrow 0 32 (fun _ => 0) k) ms (zrow 0 48 (shDB wd) re) sec (zrow 0 32 (fun _ => 1) v) w x = _ := e4
    rw [if_pos hmk0, if_pos hmk0, if_pos hmk0, if_pos hmk0, if_pos hmk0, if_pos hmk0, zjE, l_gen9, e2]
    simp only [zbE]
    rw [e4']
    simp only [zbE]
    exact tail _ _ (drU_u _ _ _ _).1 (drU_u _ _ _ _).2 0 _ _ _ _ _ _ _ _ _ _ _ _ _ _ g1 g2
  · rw [if_neg hmk0, if_neg hmk0, if_neg hmk0, if_neg hmk0, if_neg hmk0, if_neg hmk0]
    by_cases hq : rq = 64
    · have e2 : f_X10_useWords (8 : Int32) (nI c) re wd = some (nI (c - 8), zrow 0 32 (shDB wd) re, zrow 0 (c - 8) (fun i => wd (i + 8)) wd) := p_X10_useWords (n := 8) re wd (h8 hmk0 hq) hc
      have e3 := p_X10_update (n := 32) (K := k) (V := v) (d := shDB wd) (k := k) (v := v) (res := zrow 0 32 (shDB wd) re) hR hST (fun j hj => rfl) (fun j hj => rfl) (uk hmk0) (uv hmk0) (fun j hj => zrow_0 hj) (fun j _ => u255' j) (by omega) scs tot dg h inn ms sec w x
      obtain ⟨scs', tot', dg', h', in', k', m', sec', v', w', x', e4, g1, g2⟩ := e3
      have e4' : f_X10_update (32 : Int32) scs tot RO ST dg h inn k ms (zrow 0 32 (shDB wd) re) sec v w x = _ := e4
      rw [if_pos hq, if_pos hq, if_pos hq, if_pos hq, if_pos hq, if_pos hq, e2]
      simp only [zbE]
      rw [e4']
      simp only [zbE]
      rw [hmk hmk0]
      exact tail _ _ (drU_u _ _ _ _).1 (drU_u _ _ _ _).2 0 _ _ _ _ _ _ _ _ _ _ _ _ _ _ g1 g2
    · rw [if_neg hq, if_neg hq, if_neg hq, if_neg hq, if_neg hq, if_neg hq, hmk hmk0]
      exact tail _ _ (uk hmk0) (uv hmk0) rq _ _ _ _ _ _ _ _ _ _ _ _ _ _ (fun _ _ => rfl) (fun _ _ => rfl)
