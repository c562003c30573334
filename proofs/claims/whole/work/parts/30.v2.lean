/-! requests of the class, and the states behind them -/
set_option maxHeartbeats 8000000 in
theorem c_drawnS {a n m c : Nat} {bg rq made mrq hl : Int32} {key val k v kp wd cb mb : Rw} (hg : Rg bg rq key val made mrq k v) (hkw : ∀ i, i < c → kp i = wd i) (hc : c ≤ 64) (hn : gNeed made mrq ≤ c) (hcan : f_X1_canGive (nI (gNeed made mrq)) (nI c) hl = some 1) (hb : Rb cb mb) (hm : m ≤ 64) (ha : a + n ≤ 80) (gm ms sec : Rw) (fl tot : Int32) (inn sc su : Rw) :
    ∃ key' gm' val' ms' sec' inn' sc' su', f_X9_drawn_1t_secret (nI a) (nI n) (nI m) cb bg rq key gm val ms sec fl tot inn sc su (nI c) hl kp = some (1, 1, gQ1 made mrq + 1, key', gm', val', ms', zrow a n (fun t => sB (drG (gK1 made mrq k v wd) (gV1 made mrq k v wd) mb m t)) sec', 0, 96, inn', sc', su', nI (c - gNeed made mrq), zrow 0 (c - gNeed made mrq) (fun i => kp (i + gNeed made mrq)) kp) ∧ RB 32 key' (drE (gK1 made mrq k v wd) (gV1 made mrq k v wd) mb m n).1 ∧ RB 32 val' (drE (gK1 made mrq k v wd) (gV1 made mrq k v wd) mb m n).2 := by
  have hle := gNeed_le made mrq
  have eg := p_X1_give (N := 80) (n := gNeed made mrq) (c := c) kp sec hn hc (by omega) (by omega)
  obtain ⟨key1, gm1, fl1, tot1, inn1, sc1, su1, val1, e1, r1, r2⟩ := c_feed hg hkw hc hn gm fl tot inn sc su sec
  obtain ⟨u1, u2⟩ := gK1_u hg wd
  have hms : RB m (zrow 0 m (fun t => cb (0 + t)) ms) mb := fun j hj => by rw [zrow_0 hj, Nat.zero_add]; exact hb.1 j (by omega)
  obtain ⟨key2, gm2, inn2, sc2, su2, val2, e2, r3, r4⟩ := p_X3_answer (N1 := 68) (N3 := 80) (m := m) (a := a) (n := n) (d := mb) (ca1 := zrow 0 m (fun t => cb (0 + t)) ms) (gQ1 made mrq) gm1 fl1 tot1 inn1 sc1 su1 (zrow 0 80 (fun _ => 0) (zrow 0 (4 * gNeed made mrq) (fun t => sB (shDB kp t)) sec)) r1 r2 u1 u2 hms (fun j hj => hb.2 j (by omega)) hm (by omega) ha (by omega)
  refine ⟨key2, gm2, val2, zrow 0 m (fun t => cb (0 + t)) ms, zrow 0 80 (fun _ => 0) (zrow 0 (4 * gNeed made mrq) (fun t => sB (shDB kp t)) sec), inn2, sc2, su2, ?_, r3, r4⟩
  unfold f_X9_drawn_1t_secret
  rw [c_need hg, zbE, hcan, zbE, if_neg (by decide), eg]
  simp only [zbE]
  rw [e1]
  simp only [zbE]
  unfold f_X9_forgetSecret
  rw [p_J7_fillB (N := 80) 0 _ (by decide) (by omega), zbE, zbE]
  simp (disch := omega) only [zCl, zClk, znE]
  rw [zk_T ⟨by decide, by decide, nI_pos (by omega), by omega, by omega, fun j hj => by rw [Nat.zero_add]; exact RB_fit hb.1 (by omega)⟩, cpE, e2, zbE]
set_option maxHeartbeats 8000000 in
theorem c_drawnB {a n m c : Nat} {bg rq made mrq hl : Int32} {key val k v kp wd cb mb : Rw} (hg : Rg bg rq key val made mrq k v) (hkw : ∀ i, i < c → kp i = wd i) (hc : c ≤ 64) (hn : gNeed made mrq ≤ c) (hcan : f_X1_canGive (nI (gNeed made mrq)) (nI c) hl = some 1) (hb : Rb cb mb) (hm : m ≤ 64) (ha : a + n ≤ 512) (gm ms sec : Rw) (fl tot : Int32) (inn sc su : Rw) :
    ∃ key' gm' val' ms' sec' inn' sc' su', f_X9_drawn_1t_buffer (nI a) (nI n) (nI m) cb bg rq key gm val ms sec fl tot inn sc su (nI c) hl kp = some (1, zrow a n (fun t => sB (drG (gK1 made mrq k v wd) (gV1 made mrq k v wd) mb m t)) cb, 1, gQ1 made mrq + 1, key', gm', val', ms', sec', 0, 96, inn', sc', su', nI (c - gNeed made mrq), zrow 0 (c - gNeed made mrq) (fun i => kp (i + gNeed made mrq)) kp) ∧ RB 32 key' (drE (gK1 made mrq k v wd) (gV1 made mrq k v wd) mb m n).1 ∧ RB 32 val' (drE (gK1 made mrq k v wd) (gV1 made mrq k v wd) mb m n).2 := by
  have hle := gNeed_le made mrq
  have eg := p_X1_give (N := 80) (n := gNeed made mrq) (c := c) kp sec hn hc (by omega) (by omega)
  obtain ⟨key1, gm1, fl1, tot1, inn1, sc1, su1, val1, e1, r1, r2⟩ := c_feed hg hkw hc hn gm fl tot inn sc su sec
  obtain ⟨u1, u2⟩ := gK1_u hg wd
  have hms : RB m (zrow 0 m (fun t => cb (0 + t)) ms) mb := fun j hj => by rw [zrow_0 hj, Nat.zero_add]; exact hb.1 j (by omega)
  obtain ⟨key2, gm2, inn2, sc2, su2, val2, e2, r3, r4⟩ := p_X3_answer (N1 := 68) (N3 := 512) (m := m) (a := a) (n := n) (d := mb) (ca1 := zrow 0 m (fun t => cb (0 + t)) ms) (gQ1 made mrq) gm1 fl1 tot1 inn1 sc1 su1 cb r1 r2 u1 u2 hms (fun j hj => hb.2 j (by omega)) hm (by omega) ha (by omega)
  refine ⟨key2, gm2, val2, zrow 0 m (fun t => cb (0 + t)) ms, zrow 0 80 (fun _ => 0) (zrow 0 (4 * gNeed made mrq) (fun t => sB (shDB kp t)) sec), inn2, sc2, su2, ?_, r3, r4⟩
  unfold f_X9_drawn_1t_buffer
  rw [c_need hg, zbE, hcan, zbE, if_neg (by decide), eg]
  simp only [zbE]
  rw [e1]
  simp only [zbE]
  unfold f_X9_forgetSecret
  rw [p_J7_fillB (N := 80) 0 _ (by decide) (by omega), zbE, zbE]
  simp (disch := omega) only [zCl, zClk, znE]
  rw [zk_T ⟨by decide, by decide, nI_pos (by omega), by omega, by omega, fun j hj => by rw [Nat.zero_add]; exact RB_fit hb.1 (by omega)⟩, cpE, e2, zbE]
theorem Rg_aft {bg rq made mrq : Int32} {key val k v : Rw} (hg : Rg bg rq key val made mrq k v) {key' val' k' v' K V d : Rw} {m n : Nat} (h1 : RB 32 key' (drE K V d m n).1) (h2 : RB 32 val' (drE K V d m n).2) (h3 : eqN 32 k' (drE K V d m n).1) (h4 : eqN 32 v' (drE K V d m n).2) : Rg 1 (gQ1 made mrq + 1) key' val' 1 (gQ1 made mrq + 1) k' v' := by
  obtain ⟨q, hq, e⟩ := gQ1_le hg
  obtain ⟨u1, u2⟩ := drE_u K V d m n
  exact Or.inr ⟨rfl, rfl, q + 1, by omega, by rw [e, nI_1], by rw [e, nI_1], fun j hj => by rw [h1 j hj, h3 j hj], fun j hj => by rw [h2 j hj, h4 j hj], fun j hj => by rw [h3 j hj]; exact u1 j hj, fun j hj => by rw [h4 j hj]; exact u2 j hj⟩
theorem Rwk_aft {c nd : Nat} {kp wd : Rw} (hkw : ∀ i, i < c → kp i = wd i) (hc : c ≤ 64) (hn : nd ≤ c) : Rwk (nI (c - nd)) (zrow 0 (c - nd) (fun i => kp (i + nd)) kp) (nI (c - nd)) (if nd = 0 then wd else zrow 0 (c - nd) (fun i => wd (i + nd)) wd) := by
  refine ⟨c - nd, rfl, rfl, by omega, fun i hi => ?_⟩
  rw [zrow_0 hi]
  by_cases h0 : nd = 0
  · rw [if_pos h0, h0]
    exact hkw _ (by omega)
  · rw [if_neg h0, zrow_0 hi]
    exact hkw _ (by omega)
