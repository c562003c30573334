/-! a request to the generator in the class -/
def gNeed (made mrq : Int32) : Nat := if made = 0 then 12 else if mrq = 64 then 8 else 0
def gK1 (made mrq : Int32) (k v wd : Rw) : Rw := if made = 0 then (drU (fun _ => 0) (fun _ => 1) (shDB wd) 48).1 else if mrq = 64 then (drU k v (shDB wd) 32).1 else k
def gV1 (made mrq : Int32) (k v wd : Rw) : Rw := if made = 0 then (drU (fun _ => 0) (fun _ => 1) (shDB wd) 48).2 else if mrq = 64 then (drU k v (shDB wd) 32).2 else v
def gQ1 (made mrq : Int32) : Int32 := if made = 0 then 0 else if mrq = 64 then 0 else mrq
theorem lt64 {q : Nat} (h : q ≤ 64) : nI q < (64 : Int32) ↔ q < 64 := zlt2 (k := 64) (by omega) (by decide)
theorem c_need {bg rq made mrq : Int32} {key val k v : Rw} (h : Rg bg rq key val made mrq k v) : f_X3_wordsNeeded bg rq = some (nI (gNeed made mrq)) := by
  unfold f_X3_wordsNeeded gNeed
  rcases h with ⟨h1, h2⟩ | ⟨h1, h2, q, hq, h3, h4, -⟩
  · rw [if_pos h1, if_pos h2]
    rfl
  · have nb : ¬ bg = 0 := by rw [h1]; decide
    have nm : ¬ made = 0 := by rw [h2]; decide
    rw [if_neg nb, if_neg nm, h3, h4]
    by_cases hc : q < 64
    · rw [if_pos ((lt64 hq).mpr hc), if_neg (fun z => by have := (nI_eq (b := 64) (by omega) (by omega)).mp z; omega)]
      rfl
    · rw [if_neg (fun z => hc ((lt64 hq).mp z)), if_pos (by rw [show q = 64 by omega]; rfl)]
      rfl
theorem gNeed_le (made mrq : Int32) : gNeed made mrq ≤ 12 := by
  unfold gNeed
  (repeat' split) <;> omega
theorem c_can {ill hl made mrq bg rq cnt words : Int32} {key val k v kept word : Rw} {c : Nat} (hg : Rg bg rq key val made mrq k v) (hh : (hl = 0 ∧ ill = 1) ∨ (hl = 1 ∧ ill = 0)) (hc : c ≤ 64) : ∃ r, f_X1_canGive (nI (gNeed made mrq)) (nI c) hl = some r ∧ f_X10_canGenerate ill made mrq (nI c) = some r ∧ ((r = 0) ∨ (r = 1 ∧ gNeed made mrq ≤ c)) := by
  unfold f_X1_canGive f_X10_canGenerate
  rcases hh with ⟨h1, h2⟩ | ⟨h1, h2⟩
  · rw [if_pos h1, if_neg (by rw [h2]; decide)]
    exact ⟨_, rfl, rfl, Or.inl rfl⟩
  · rw [if_neg (by rw [h1]; decide), if_pos h2]
    have hle := gNeed_le made mrq
    have e : (if nI c < nI (gNeed made mrq) then some (0 : Int32) else some 1) = if c < gNeed made mrq then some 0 else some 1 := by
      by_cases hq : c < gNeed made mrq
      · rw [if_pos hq, if_pos (nI_lt hq (by omega))]
      · rw [if_neg hq, if_neg (nI_nlt (by omega) (by omega))]
    rw [e]
    rcases hg with ⟨g1, g2⟩ | ⟨g1, g2, q, hq, g3, g4, -⟩
    · have en : gNeed made mrq = 12 := by unfold gNeed; rw [if_pos g2]
      rw [en, if_pos g2]
      by_cases hq : c < 12
      · rw [if_pos hq, if_pos (show nI c < (12 : Int32) from nI_lt (b := 12) hq (by omega))]
        exact ⟨_, rfl, rfl, Or.inl rfl⟩
      · rw [if_neg hq, if_neg (show ¬ nI c < (12 : Int32) from nI_nlt (b := 12) (by omega) (by omega))]
        exact ⟨_, rfl, rfl, Or.inr ⟨rfl, by omega⟩⟩
    · have nm : ¬ made = 0 := by rw [g2]; decide
      rw [if_neg nm]
      by_cases h64 : q < 64
      · have nq : ¬ mrq = 64 := fun z => by rw [g4] at z; have := (nI_eq (b := 64) (by omega) (by omega)).mp z; omega
        have en : gNeed made mrq = 0 := by unfold gNeed; rw [if_neg nm, if_neg nq]
        rw [en, if_neg (show ¬ c < 0 by omega), if_pos (show mrq < 64 by rw [g4]; exact (lt64 hq).mpr h64)]
        exact ⟨_, rfl, rfl, Or.inr ⟨rfl, by omega⟩⟩
      · have yq : mrq = 64 := by rw [g4, show q = 64 by omega]; rfl
        have en : gNeed made mrq = 8 := by unfold gNeed; rw [if_neg nm, if_pos yq]
        rw [en, if_neg (show ¬ mrq < 64 by rw [g4]; exact fun z => h64 ((lt64 hq).mp z))]
        by_cases hq : c < 8
        · rw [if_pos hq, if_pos (show nI c < (8 : Int32) from nI_lt (b := 8) hq (by omega))]
          exact ⟨_, rfl, rfl, Or.inl rfl⟩
        · rw [if_neg hq, if_neg (show ¬ nI c < (8 : Int32) from nI_nlt (b := 8) (by omega) (by omega))]
          exact ⟨_, rfl, rfl, Or.inr ⟨rfl, by omega⟩⟩
theorem gK1_u {bg rq made mrq : Int32} {key val k v : Rw} (hg : Rg bg rq key val made mrq k v) (wd : Rw) : isU8 (gK1 made mrq k v wd) 32 ∧ isU8 (gV1 made mrq k v wd) 32 := by
  unfold gK1 gV1
  rcases hg with ⟨g1, g2⟩ | ⟨g1, g2, q, hq, g3, g4, g5, g6, g7, g8⟩
  · rw [if_pos g2, if_pos g2]
    exact drU_u _ _ _ _
  · have nm : ¬ made = 0 := by rw [g2]; decide
    rw [if_neg nm, if_neg nm]
    by_cases hc : mrq = 64
    · rw [if_pos hc, if_pos hc]
      exact drU_u _ _ _ _
    · rw [if_neg hc, if_neg hc]
      exact ⟨g7, g8⟩
theorem sh_rc {kp wd : Rw} {c n : Nat} (h : ∀ i, i < c → kp i = wd i) (hn : n ≤ c) (f : Rw) : RB (4 * n) (zrow 0 (4 * n) (fun t => sB (shDB kp t)) f) (shDB wd) := fun t ht => by
  rw [zrow_0 ht]
  unfold shDB
  rw [h (t / 4) (by omega)]
set_option maxHeartbeats 4000000 in
theorem c_feed {bg rq made mrq : Int32} {key val k v kp wd : Rw} {c : Nat} (hg : Rg bg rq key val made mrq k v) (hkw : ∀ i, i < c → kp i = wd i) (hc : c ≤ 64) (hn : gNeed made mrq ≤ c) (msg : Rw) (fl tot : Int32) (inn sc su sec : Rw) :
    ∃ key' msg' fl' tot' inn' sc' su' val', f_X3_feed 80 ((4 : Int32) * nI (gNeed made mrq)) bg rq key msg fl tot inn sc su val (zrow 0 (4 * gNeed made mrq) (fun t => sB (shDB kp t)) sec) = some (1, gQ1 made mrq, key', msg', fl', tot', inn', sc', su', val') ∧ RB 32 key' (gK1 made mrq k v wd) ∧ RB 32 val' (gV1 made mrq k v wd) := by
  have ud : isU8 (shDB wd) (4 * gNeed made mrq) := fun j _ => and255 _
  have hle := gNeed_le made mrq
  rw [zM]
  rcases hg with ⟨g1, g2⟩ | ⟨g1, g2, q, hq, g3, g4, g5, g6, g7, g8⟩
  · have e12 : gNeed made mrq = 12 := by unfold gNeed; rw [if_pos g2]
    rw [e12] at hn ⊢
    obtain ⟨key', msg', inn', sc', su', val', e, r1, r2⟩ := p_X3_feed (N := 80) (n := 48) (d := shDB wd) (key := key) (val := val) bg rq msg fl tot inn sc su (fun q => absurd g1 q) (fun q => absurd g1 q) (K := fun _ => 0) (V := fun _ => 0) (fun _ _ => show (0 : Int32) &&& 255 = 0 by decide) (fun _ _ => show (0 : Int32) &&& 255 = 0 by decide) (sh_rc hkw (n := 12) hn sec) (fun j _ => and255 _) (by omega) (by omega) (by omega)
    refine ⟨key', msg', 0, 96, inn', sc', su', val', e.trans ?_, ?_, ?_⟩
    · unfold gQ1
      rw [if_pos g1, if_pos g2]
    · unfold gK1
      rw [if_pos g2]
      rw [if_pos g1, if_pos g1] at r1
      exact r1
    · unfold gV1
      rw [if_pos g2]
      rw [if_pos g1, if_pos g1] at r2
      exact r2
  · have nb : ¬ bg = 0 := by rw [g1]; decide
    have nm : ¬ made = 0 := by rw [g2]; decide
    by_cases hc : mrq = 64
    · have e8 : gNeed made mrq = 8 := by unfold gNeed; rw [if_neg nm, if_pos hc]
      rw [e8] at hn ⊢
      obtain ⟨key', msg', inn', sc', su', val', e, r1, r2⟩ := p_X3_feed (N := 80) (n := 32) (K := k) (V := v) (d := shDB wd) (key := key) (val := val) bg rq msg fl tot inn sc su (fun _ => g5) (fun _ => g6) g7 g8 (sh_rc hkw (n := 8) hn sec) (fun j _ => and255 _) (by omega) (by omega) (by omega)
      refine ⟨key', msg', 0, 96, inn', sc', su', val', e.trans ?_, ?_, ?_⟩
      · unfold gQ1
        rw [if_neg nb, if_neg nm, if_pos hc, g1]
      · unfold gK1
        rw [if_neg nm, if_pos hc]
        rw [if_neg nb, if_neg nb] at r1
        exact r1
      · unfold gV1
        rw [if_neg nm, if_pos hc]
        rw [if_neg nb, if_neg nb] at r2
        exact r2
    · have e0 : gNeed made mrq = 0 := by unfold gNeed; rw [if_neg nm, if_neg hc]
      rw [e0]
      refine ⟨key, msg, fl, tot, inn, sc, su, val, ?_, ?_, ?_⟩
      · unfold f_X3_feed gQ1
        rw [if_pos (by decide), if_neg nm, if_neg hc, g1, g3, g4]
      · unfold gK1
        rw [if_neg nm, if_neg hc]
        exact g5
      · unfold gV1
        rw [if_neg nm, if_neg hc]
        exact g6
theorem gQ1_le {bg rq made mrq : Int32} {key val k v : Rw} (hg : Rg bg rq key val made mrq k v) : ∃ q, q < 64 ∧ gQ1 made mrq = nI q := by
  unfold gQ1
  rcases hg with ⟨g1, g2⟩ | ⟨g1, g2, q, hq, g3, g4, -⟩
  · rw [if_pos g2]
    exact ⟨0, by omega, rfl⟩
  · rw [if_neg (by rw [g2]; decide)]
    by_cases hc : mrq = 64
    · rw [if_pos hc]
      exact ⟨0, by omega, rfl⟩
    · rw [if_neg hc, g4]
      refine ⟨q, ?_, rfl⟩
      have : q ≠ 64 := fun z => hc (by rw [g4, z]; rfl)
      omega
theorem drE_u (K V d : Rw) (m n : Nat) : isU8 (drE K V d m n).1 32 ∧ isU8 (drE K V d m n).2 32 := drU_u _ _ _ _
theorem drG_u {K V : Rw} (d : Rw) (m : Nat) (uK : isU8 K 32) (uV : isU8 V 32) (t : Nat) : drG K V d m t &&& 255 = drG K V d m t := drO_u (drB_u d m uK uV).2 _ _ (Nat.mod_lt _ (by decide))
/-- the model's side of a request -/
theorem m_gen {RO ST bx bk : Rw} (ht : Rtb RO ST bx bk) {n m c : Nat} {bg rq made mrq : Int32} {key val bu k v wd : Rw} (hg : Rg bg rq key val made mrq k v) (ub : isU8 bu m) (hn : n ≤ 256) (hm : m ≤ 64) (hc : c ≤ 64) (hnd : gNeed made mrq ≤ c) (scs : Int32) (tot : Int64) (dg h inn ms re sec w x : Rw) :
    gAft (gK1 made mrq k v wd) (gV1 made mrq k v wd) bu m n 1 (gQ1 made mrq + 1) (nI (c - gNeed made mrq)) (if gNeed made mrq = 0 then wd else zrow 0 (c - gNeed made mrq) (fun i => wd (i + gNeed made mrq)) wd) (f_X10_generate (nI n) (nI m) made mrq scs tot (nI c) RO ST bu dg h inn k ms re sec v w wd x) := by
  have nm : ¬ made = 0 → ∃ q, q ≤ 64 ∧ mrq = nI q ∧ made = 1 ∧ isU8 k 32 ∧ isU8 v 32 := fun q => by
    rcases hg with ⟨g1, g2⟩ | ⟨g1, g2, q, hq, g3, g4, g5, g6, g7, g8⟩
    · exact absurd g2 q
    · exact ⟨q, hq, g4, g2, g7, g8⟩
  have := p_X10_generate ht.1 ht.2.1 (n := n) (m := m) (c := c) (mk := made) (rq := mrq) (bu := bu) (k := k) (v := v) (wd := wd) ub (fun q => (nm q).choose_spec.2.2.2.1) (fun q => (nm q).choose_spec.2.2.2.2) hn hm hc (fun q => by unfold gNeed at hnd; rw [if_pos q] at hnd; exact hnd) (fun q1 q2 => by unfold gNeed at hnd; rw [if_neg q1, if_pos q2] at hnd; exact hnd) (fun q => (nm q).choose_spec.2.2.1) scs tot dg h inn ms re sec w x
  have e1 : nI (c - gNeed made mrq) = (if made = 0 then nI (c - 12) else if mrq = 64 then nI (c - 8) else nI c) := by
    unfold gNeed
    by_cases q1 : made = 0
    · rw [if_pos q1, if_pos q1]
    · rw [if_neg q1, if_neg q1]
      by_cases q2 : mrq = 64
      · rw [if_pos q2, if_pos q2]
      · rw [if_neg q2, if_neg q2, Nat.sub_zero]
  have e2 : (if gNeed made mrq = 0 then wd else zrow 0 (c - gNeed made mrq) (fun i => wd (i + gNeed made mrq)) wd) = (if made = 0 then zrow 0 (c - 12) (fun i => wd (i + 12)) wd else if mrq = 64 then zrow 0 (c - 8) (fun i => wd (i + 8)) wd else wd) := by
    unfold gNeed
    by_cases q1 : made = 0
    · rw [if_pos q1, if_pos q1, if_neg (by omega)]
    · rw [if_neg q1, if_neg q1]
      by_cases q2 : mrq = 64
      · rw [if_pos q2, if_pos q2, if_neg (by omega)]
      · rw [if_neg q2, if_neg q2, if_pos rfl]
  rw [e1, e2]
  exact this
