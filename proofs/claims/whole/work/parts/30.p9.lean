/-! SHA-256 in the class: a key's padded block, and HMAC -/
set_option maxHeartbeats 4000000 in
theorem p_X7_endI_out {a : Nat} (su ca : Nat → Int32) (K : (Nat → Int32) → Option (Int32 × (Nat → Int32) × (Nat → Int32) × (Nat → Int32))) (hN : a + 32 ≤ 32) :
    zl (b_X7_end_1t_inner_97 (nI a) su K) zF ((0 : Int32), ca) = K (zrow a 32 (fun j => sB (shDB su j)) ca) := by
  refine zl_up (F := b_X7_end_1t_inner_97 (nI a) su K) (fun i (s : Nat → Int32) => (nI i, s)) (fun i s => s = zrow a (4 * i) (fun j => sB (shDB su j)) ca) 0 8 ca (fun o => o = K (zrow a 32 (fun j => sB (shDB su j)) ca)) (by omega) (by omega) zrow_n0.symm ?_ ?_
  · intro self s hs
    subst hs
    simp only [b_X7_end_1t_inner_97]
    exact if_pos (by decide)
  · intro self i s _ hi hs
    subst hs
    refine ⟨_, rfl, ?_⟩
    have e := p_X9_putInt (N := 32) (a := a + 4 * i) (su i) (zrow a (4 * i) (fun j => sB (shDB su j)) ca) (by omega) (by omega)
    rw [zrow_glue (fun j hj => by rw [shDB_w hj])] at e
    simp (disch := omega) only [b_X7_end_1t_inner_97, zle1, if_neg, zM, nI_add, zCl, zki, zA, e, zbE]
    rfl
set_option maxHeartbeats 4000000 in
theorem p_X7_endI {a n : Nat} {b : Nat → Int32} {fl : Int32} {sc su : Nat → Int32} (ca : Nat → Int32) (hS : shCS b n fl sc su) (hn : n < 2 ^ 28) (hN : a + 32 ≤ 32) :
    ∃ sc' su', f_X7_end_1t_inner (nI a) fl (nI n) ca sc su = some (0, zrow a 32 (fun j => sB (shD b n j)) ca, sc', su') := by
  have hfl : fl = nI (n % 64) := hS.1
  have hx : fl >>> ((2 : Int32) &&& 31) = nI (n % 64 / 4) := by rw [hfl]; exact shr2 (by omega)
  have h3 : fl &&& 3 = nI (n % 64 % 4) := by rw [hfl]; exact pk_andN (by omega) 2 (by decide)
  have hE := shEndW hS
  obtain ⟨sc2, hsc2⟩ : ∃ q, q = zrow (n % 64 / 4 + 1) (16 - (n % 64 / 4 + 1)) (fun _ => 0) (upd sc (n % 64 / 4) (((sc (n % 64 / 4) <<< ((8 : Int32) &&& 31)) ||| 128) <<< (nI (24 - 8 * (n % 64 % 4)) &&& 31))) := ⟨_, rfl⟩
  rw [← hsc2] at hE
  have hf : f_J7_fill_fda19 64 (nI (n % 64 / 4 + 1)) 16 0 (upd sc (n % 64 / 4) (((sc (n % 64 / 4) <<< ((8 : Int32) &&& 31)) ||| 128) <<< (nI (24 - 8 * (n % 64 % 4)) &&& 31))) = some sc2 := by
    rw [hsc2]
    exact p_J7_fillI (N := 64) (a := n % 64 / 4 + 1) (e := 16) 0 _ (by omega) (by omega) (by omega)
  have hf2 : ∀ c, f_J7_fill_fda19 64 0 16 0 c = some (zrow 0 16 (fun _ => 0) c) := fun c => p_J7_fillI (N := 64) (a := 0) (e := 16) 0 c (by omega) (by omega) (by omega)
  have fin : ∀ s5 su1 k, shL n = 64 * (k + 1) → (∀ i, i < 16 → s5 i = shW4 (fun t => shPad b n (64 * k + t)) i) → (∀ j, j < 8 → su1 j = shN (shPad b n) k j) → zrow a 32 (fun j => sB (shDB (shA su1 (shZ (shE s5) su1)) j)) ca = zrow a 32 (fun j => sB (shD b n j)) ca := by
    intro s5 su1 k hk h5 h1
    refine zrow_congr (fun j hj => ?_)
    unfold shD
    rw [shDB_congr (k := shN (shPad b n) ((n + 8) / 64 + 1)) (fun q hq => ?_) hj]
    rw [show (n + 8) / 64 + 1 = k + 1 by unfold shL at hk; omega]
    exact shC_congr (m := s5) (h := su1) h5 h1 q hq
  unfold f_X7_end_1t_inner
  simp (disch := omega) only [znE, hx, h3, zCl, zki, zA, zM, zS2, hf, zbE]
  rw [zjE]
  by_cases hc : n % 64 < 56
  · have hk : shL n = 64 * (n / 64 + 1) := by unfold shL; omega
    rw [if_pos (by rw [hfl]; exact nI_lt (b := 56) hc (by omega))]
    simp (disch := omega) only [zClk, zkk, p_X7_compress, zbE]
    rw [zjE, p_X7_endI_out _ _ _ hN]
    exact ⟨_, _, congrArg (fun q => some ((0 : Int32), q, shE (upd sc2 15 (nI (8 * n))), shA su (shZ (shE (upd sc2 15 (nI (8 * n)))) su))) (fin (upd sc2 15 (nI (8 * n))) su (n / 64) hk (shLastW hk (by omega) hn hE) (fun j hj => (hS.2.1 j hj).trans (shN_congr (n / 64) (fun t ht => by rw [shPad_z (by omega), shPz_lo (by omega)]) j hj)))⟩
  · have hk : shL n = 64 * (n / 64 + 1 + 1) := by unfold shL; omega
    rw [if_neg (by rw [hfl]; exact nI_nlt (b := 56) (by omega) (by omega))]
    simp (disch := omega) only [zClk, zkk, p_X7_compress, zbE, hf2]
    rw [zjE, p_X7_endI_out _ _ _ hN]
    have h6 : ∀ i, i < 16 → upd (zrow 0 16 (fun _ => 0) (shE sc2)) 15 (nI (8 * n)) i = shW4 (fun t => shPad b n (64 * (n / 64 + 1) + t)) i := by
      refine shLastW hk (by omega) hn (fun i hi => ?_)
      rw [zrow_0 hi]
      exact (shW4_0 (m := fun t => shPz b n (64 * (n / 64 + 1) + t)) (i := i) (fun t ht => shPz_hi (by omega))).symm
    have h7 : ∀ j, j < 8 → shA su (shZ (shE sc2) su) j = shN (shPad b n) (n / 64 + 1) j :=
      shC_congr (m := sc2) (h := su) (fun i hi => (hE i hi).trans (shW4_congr (fun t ht => (shPad_z (by omega)).symm))) (fun j hj => (hS.2.1 j hj).trans (shN_congr (n / 64) (fun t ht => by rw [shPad_z (by omega), shPz_lo (by omega)]) j hj))
    exact ⟨_, _, congrArg (fun q => some ((0 : Int32), q, shE (upd (zrow 0 16 (fun _ => 0) (shE sc2)) 15 (nI (8 * n))), shA (shA su (shZ (shE sc2) su)) (shZ (shE (upd (zrow 0 16 (fun _ => 0) (shE sc2)) 15 (nI (8 * n)))) (shA su (shZ (shE sc2) su))))) (fin _ _ (n / 64 + 1) hk h6 h7)⟩
def shWS (b : Nat → Int32) (i : Nat) (sc : Nat → Int32) : Prop := (∀ w, w < i / 4 → sc w = shW4 b w) ∧ ∃ g, sc (i / 4) = shF g (fun t => b (4 * (i / 4) + t)) (i % 4)
theorem shWS_step {b : Nat → Int32} {i : Nat} {sc : Nat → Int32} (h : shWS b i sc) : shWS b (i + 1) (upd sc (i / 4) ((sc (i / 4) <<< ((8 : Int32) &&& 31)) ||| b i)) := by
  obtain ⟨h1, g, h2⟩ := h
  have hs : upd sc (i / 4) ((sc (i / 4) <<< ((8 : Int32) &&& 31)) ||| b i) (i / 4) = shF g (fun t => b (4 * (i / 4) + t)) (i % 4 + 1) := by
    rw [upd_s, h2]
    show _ = (shF g _ (i % 4) <<< ((8 : Int32) &&& 31)) ||| b (4 * (i / 4) + i % 4)
    rw [show 4 * (i / 4) + i % 4 = i by omega]
  by_cases hc : i % 4 = 3
  · refine ⟨fun w hw => ?_, ?_⟩
    · by_cases e : w = i / 4
      · subst e
        rw [hs, hc]
        show shF g _ 4 = _
        rw [shF_4]
        rfl
      · rw [upd_n _ _ e]
        exact h1 w (by omega)
    · rw [show (i + 1) % 4 = 0 by omega]
      exact ⟨_, rfl⟩
  · refine ⟨fun w hw => ?_, g, ?_⟩
    · rw [upd_n _ _ (by omega)]
      exact h1 w (by omega)
    · rw [show (i + 1) / 4 = i / 4 by omega, show (i + 1) % 4 = i % 4 + 1 by omega]
      exact hs
theorem p_X7_begin (fl tot : Int32) (su : Nat → Int32) : ∃ su', f_X7_begin fl tot su = some (0, 0, su') ∧ ∀ j, j < 8 → su' j = tb_BEGINNING.getD j 0 := by
  unfold f_X7_begin
  rw [zk_T (by decide), znE]
  refine ⟨_, rfl, fun j hj => ?_⟩
  refine (pk_cpy_in (Nat.zero_le _) (show j < (0 : Int32).toNatClampNeg + (8 : Int32).toNatClampNeg from hj)).trans ?_
  show tb_BEGINNING.getD (0 + (j - 0)) 0 = _
  rw [Nat.zero_add, Nat.sub_zero]
theorem shCS_0 (b : Nat → Int32) {su : Nat → Int32} (sc : Nat → Int32) (h : ∀ j, j < 8 → su j = tb_BEGINNING.getD j 0) : shCS b 0 0 sc su := ⟨rfl, h, fun i hi => by omega, _, rfl⟩
theorem shCS_congr {b c : Nat → Int32} {n : Nat} {fl : Int32} {sc su : Nat → Int32} (e : ∀ t, t < n → b t = c t) (h : shCS b n fl sc su) : shCS c n fl sc su := by
  obtain ⟨h1, h2, h3, g, h4⟩ := h
  refine ⟨h1, fun j hj => (h2 j hj).trans (shN_congr (n / 64) (fun t ht => e t (by omega)) j hj), fun i hi => (h3 i hi).trans (shW4_congr (fun t ht => e _ (by omega))), g, h4.trans (shF_congr g _ (fun t ht => e _ (by omega)))⟩
set_option maxHeartbeats 4000000 in
theorem p_X7_takePadded {N len : Nat} {b su ca : Nat → Int32} (p fl tot : Int32) (sc : Nat → Int32) (hb : ∀ t, t < 64 → b t = (if t < len then ca t &&& 255 else 0) ^^^ p) (hs : ∀ j, j < 8 → su j = tb_BEGINNING.getD j 0) (hl : len ≤ N) (hl2 : len ≤ 64) (hN : N ≤ 1500) :
    ∃ sc' su', f_X7_takePadded N (nI len) p fl tot sc su ca = some (0, 64, sc', su') ∧ shCS b 64 0 sc' su' := by
  unfold f_X7_takePadded
  rw [zjE]
  refine zl_up (F := b_X7_takePadded_3 N (nI len) p ca _) (fun i (s : Nat → Int32) => (nI i, s)) (fun i s => shWS b i s) 0 64 sc (fun o => ∃ sc' su', o = some (0, 64, sc', su') ∧ shCS b 64 0 sc' su') (by omega) (by omega) ⟨fun w hw => by omega, _, rfl⟩ ?_ ?_
  · intro self s h
    simp only [b_X7_takePadded_3]
    rw [if_pos (by decide), p_X7_compress]
    refine ⟨_, _, rfl, rfl, ?_, fun i hi => by omega, _, rfl⟩
    exact shC_congr (m := s) (h := su) (fun i hi => (h.1 i (by omega)).trans (shW4_congr (fun t ht => by rw [show 64 * 0 + (4 * i + t) = 4 * i + t by omega]))) hs
  · intro self i s _ hi h
    refine ⟨_, shWS_step h, ?_⟩
    have hx : nI i >>> ((2 : Int32) &&& 31) = nI (i / 4) := shr2 (by omega)
    simp only [b_X7_takePadded_3, zjE, znE, hx]
    rw [if_neg (show ¬ (64 : Int32) ≤ nI i from nI_ge (b := 64) hi (by omega)), hb i hi]
    by_cases hc : i < len
    · rw [if_neg (nI_ge hc (by omega)), if_pos hc, zk_T (nI_in (by omega) (by omega)), zk_T (nI_in (by omega) (by omega)), zk_T (nI_in (by omega) (by omega)), nI_clamp (n := i) (by omega), nI_clamp (n := i / 4) (by omega), nI_1]
    · rw [if_pos (nI_le (by omega) (by omega)), if_neg hc, zk_T (nI_in (by omega) (by omega)), zk_T (nI_in (by omega) (by omega)), nI_clamp (n := i / 4) (by omega), nI_1]
/-- HMAC: the streams, the answer -/
def hmI (len : Nat) (kk d : Nat → Int32) (p : Int32) (t : Nat) : Int32 := if t < 64 then (if t < len then kk t else 0) ^^^ p else d (t - 64)
def hmac (len : Nat) (kk d : Nat → Int32) (n : Nat) : Nat → Int32 := shD (hmI len kk (shD (hmI len kk d 54) (64 + n)) 92) 96
theorem and255 (x : Int32) : (x &&& 255) &&& 255 = x &&& 255 := by
  rw [Int32.and_assoc]
  rfl
theorem shD_u (b : Nat → Int32) (n j : Nat) : shD b n j &&& 255 = shD b n j := and255 _
theorem sB_and (m : Int32) : sB m &&& 255 = m &&& 255 := bp_b m
theorem sB_shD (b : Nat → Int32) (n j : Nat) : sB (shD b n j) &&& 255 = shD b n j := (sB_and _).trans (shD_u b n j)
theorem p_X7_takeI (p2 p3 fl tot : Int32) (inner sc su : Nat → Int32) : f_X7_take_1t_inner p2 p3 fl tot inner sc su = f_X7_take 32 p2 p3 fl tot sc su inner := rfl
set_option maxHeartbeats 4000000 in
theorem p_X7_mac {N1 N3 N6 len a n to : Nat} {kk d ca1 ca3 : Nat → Int32} (fl tot : Int32) (inner sc su ca6 : Nat → Int32) (hk : ∀ t, t < len → ca1 t &&& 255 = kk t) (hd : ∀ i, i < n → ca3 (a + i) &&& 255 = d i)
    (h1 : len ≤ N1) (h2 : len ≤ 64) (h3 : N1 ≤ 1500) (h4 : a + n ≤ N3) (h5 : N3 ≤ 1500) (h6 : to + 32 ≤ N6) (h7 : N6 ≤ 1500) :
    ∃ inner' sc' su', f_X7_mac N1 N3 N6 (nI len) (nI a) (nI n) (nI to) fl tot inner sc su ca1 ca3 ca6 = some (0, 96, inner', sc', su', zrow to 32 (fun j => sB (hmac len kk d n j)) ca6) := by
  have hi : ∀ (D : Nat → Int32) (p : Int32) (t : Nat), t < 64 → hmI len kk D p t = (if t < len then ca1 t &&& 255 else 0) ^^^ p := by
    intro D p t ht
    unfold hmI
    rw [if_pos ht]
    by_cases hc : t < len
    · rw [if_pos hc, if_pos hc, hk t hc]
    · rw [if_neg hc, if_neg hc]
  have ho : ∀ (D : Nat → Int32) (p : Int32) (i : Nat), hmI len kk D p (64 + i) = D i := by
    intro D p i
    unfold hmI
    rw [if_neg (by omega), Nat.add_sub_cancel_left]
  unfold f_X7_mac
  obtain ⟨u1, e1, g1⟩ := p_X7_begin fl tot su
  obtain ⟨s2, u2, e2, g2⟩ := p_X7_takePadded (N := N1) (len := len) (b := hmI len kk d 54) (ca := ca1) 54 0 0 sc (hi d 54) g1 h1 h2 h3
  obtain ⟨f3, s3, u3, e3, g3⟩ := p_X7_take (N := N3) (a := a) (n := 64) (k := n) (ca := ca3) 64 g2 (fun i q => by rw [hd i q, ho]) h4 h5
  rw [show (64 : Int32) + nI n = nI (64 + n) from nI_add 64 n] at e3
  obtain ⟨s4, u4, e4⟩ := p_X7_endI (a := 0) inner g3 (by omega) (by omega)
  obtain ⟨u5, e5, g5⟩ := p_X7_begin 0 (nI (64 + n)) u4
  obtain ⟨s6, u6, e6, g6⟩ := p_X7_takePadded (N := N1) (len := len) (b := hmI len kk (shD (hmI len kk d 54) (64 + n)) 92) (ca := ca1) 92 0 0 s4 (hi _ 92) g5 h1 h2 h3
  obtain ⟨f7, s7, u7, e7, g7⟩ := p_X7_take (N := 32) (a := 0) (n := 64) (k := 32) (ca := zrow 0 32 (fun j => sB (shD (hmI len kk d 54) (64 + n) j)) inner) 64 g6 (fun i q => by rw [zrow_in (by omega) (by omega), Nat.zero_add, Nat.sub_zero, sB_shD, ho]) (by omega) (by omega)
  rw [show (64 : Int32) + nI 32 = nI 96 from nI_add 64 32] at e7
  obtain ⟨s8, u8, e8⟩ := p_X7_end (N := N6) (a := to) ca6 g7 (by omega) h6 h7
  refine ⟨zrow 0 32 (fun j => sB (shD (hmI len kk d 54) (64 + n) j)) inner, s8, u8, ?_⟩
  have e4' : f_X7_end_1t_inner 0 f3 (nI (64 + n)) inner s3 u3 = some (0, zrow 0 32 (fun j => sB (shD (hmI len kk d 54) (64 + n) j)) inner, s4, u4) := e4
  have e7' : f_X7_take 32 0 32 0 64 s6 u6 (zrow 0 32 (fun j => sB (shD (hmI len kk d 54) (64 + n) j)) inner) = some (f7, nI 96, s7, u7) := e7
  have e8' : f_X7_end N6 (nI to) f7 (nI 96) s7 u7 ca6 = some (0, s8, u8, zrow to 32 (fun j => sB (hmac len kk d n j)) ca6) := e8
  simp only [e1, zbE, e2, e3, e4', e5, e6, p_X7_takeI, e7', e8']
  rfl
theorem p_X7_mac_6a1 (N1 N3 : Nat) (p2 p4 p5 p7 fl tot : Int32) (inner sc su ca1 ca3 : Nat → Int32) : f_X7_mac_6a1 N1 N3 p2 p4 p5 p7 fl tot inner sc su ca1 ca3 = f_X7_mac N1 N3 N1 p2 p4 p5 p7 fl tot inner sc su ca1 ca3 ca1 := rfl
theorem p_X7_mac_6a3 (N1 N3 : Nat) (p2 p4 p5 p7 fl tot : Int32) (inner sc su ca1 ca3 : Nat → Int32) : f_X7_mac_6a3 N1 N3 p2 p4 p5 p7 fl tot inner sc su ca1 ca3 = f_X7_mac N1 N3 N3 p2 p4 p5 p7 fl tot inner sc su ca1 ca3 ca3 := rfl
theorem p_X7_mac_PK (N3 N6 j : Nat) (p2 p4 p5 p7 fl tot : Int32) (inner sc su ca3 ca6 : Nat → Int32) (PK : Nat → Nat → Int32) : f_X7_mac_1PK N3 N6 j p2 p4 p5 p7 fl tot inner sc su ca3 ca6 PK = f_X7_mac 64 N3 N6 p2 p4 p5 p7 fl tot inner sc su (PK j) ca3 ca6 := rfl
theorem p_X7_mac_PK3 (N3 j : Nat) (p2 p4 p5 p7 fl tot : Int32) (inner sc su ca3 : Nat → Int32) (PK : Nat → Nat → Int32) : f_X7_mac_1PK_6a3 N3 j p2 p4 p5 p7 fl tot inner sc su ca3 PK = f_X7_mac 64 N3 N3 p2 p4 p5 p7 fl tot inner sc su (PK j) ca3 ca3 := rfl
