/-! the self tests: each of them comes right, or wrong if a fault is set -/
theorem zkT2 {α : Type} {d : Decidable True} (x : Option α) : @zk α True d x = x := if_pos trivial
def TR (p : Int32) (o : Option (Int32 × Int32 × Rw × Int64 × Int64 × Int64 × Int64 × Rw × Int32 × Int32 × Rw × Rw × Rw × Rw × Rw × Rw × Int32 × Int32 × Rw × Rw × Rw × Rw)) : Prop :=
  ∃ (rd' : Int32) (ak' : Rw) (kh' kl' sh' sl' : Int64) (tag' : Rw) (bg' rq' : Int32) (gk' gm' gv' key' mbk' mpd' : Rw) (fl' tot' : Int32) (inn' sc' su' work' : Rw), o = some (p, rd', ak', kh', kl', sh', sl', tag', bg', rq', gk', gm', gv', key', mbk', mpd', fl', tot', inn', sc', su', work') ∧ Bt 64 work'
theorem TR_mk {p : Int32} {o : Option (Int32 × Int32 × Rw × Int64 × Int64 × Int64 × Int64 × Rw × Int32 × Int32 × Rw × Rw × Rw × Rw × Rw × Rw × Int32 × Int32 × Rw × Rw × Rw × Rw)} {rd' : Int32} {ak' : Rw} {kh' kl' sh' sl' : Int64} {tag' : Rw} {bg' rq' : Int32} {gk' gm' gv' key' mbk' mpd' : Rw} {fl' tot' : Int32} {inn' sc' su' work' : Rw} (e : o = some (p, rd', ak', kh', kl', sh', sl', tag', bg', rq', gk', gm', gv', key', mbk', mpd', fl', tot', inn', sc', su', work')) (h : Bt 64 work') : TR p o := ⟨rd', ak', kh', kl', sh', sl', tag', bg', rq', gk', gm', gv', key', mbk', mpd', fl', tot', inn', sc', su', work', e, h⟩
theorem p_X9_alike0 {c0 c2 m0 m2 : Rw} (h0 : ∀ t, t < 32 → c0 t = sB (m0 t)) (h2 : ∀ t, t < 32 → c2 t = sB (m2 t)) (u0 : isU8 m0 32) (u2 : isU8 m2 32) : ∃ r, f_X9_alike 32 64 (0 : Int32) (0 : Int32) (32 : Int32) c0 c2 = some r ∧ ((r = 1 ∧ ∀ t, t < 32 → m0 t = m2 t) ∨ (r = 0 ∧ ¬ ∀ t, t < 32 → m0 t = m2 t)) := by
  obtain ⟨r, e, g⟩ := p_X9_alike (N0 := 32) (N2 := 64) (p := 0) (q := 0) (n := 32) (c0 := c0) (c2 := c2) (m0 := m0) (m2 := m2) (fun t ht => by rw [Nat.zero_add]; exact h0 t ht) (fun t ht => by rw [Nat.zero_add]; exact h2 t ht) (fun t ht => by rw [Nat.zero_add]; exact u0 t ht) (fun t ht => by rw [Nat.zero_add]; exact u2 t ht) (by omega) (by omega) (by omega) (by omega)
  simp only [Nat.zero_add] at g
  exact ⟨r, e, g⟩
theorem dO0_u : isU8 dO0 32 := fun t ht => drO_u dU0.2 _ _ (Nat.mod_lt _ (by decide))
theorem dO1_u : isU8 dO1 32 := fun t ht => drO_u dU1.2 _ _ (Nat.mod_lt _ (by decide))
set_option maxHeartbeats 4000000 in
theorem t_right_0_0 {work : Rw} (hw : Bt 64 work) (rd : Int32) (ak : Rw) (kh kl sh sl : Int64) (tag : Rw) (bg rq : Int32) (gk gm gv key mbk mpd : Rw) (fl tot : Int32) (inn sc su : Rw) : TR 1 (f_X6_comesRight (0 : Int32) (0 : Int32) rd ak kh kl sh sl tag bg rq gk gm gv key mbk mpd fl tot inn sc su work) := by
  obtain ⟨rd', ak', key', work', e, hw'⟩ := t_aeskx1_0 hw rd ak key
  have ec : f_X6_comesRight (0 : Int32) (0 : Int32) rd ak kh kl sh sl tag bg rq gk gm gv key mbk mpd fl tot inn sc su work = some (1, rd', ak', kh, kl, sh, sl, tag, bg, rq, gk, gm, gv, key', mbk, mpd, fl, tot, inn, sc, su, work') := by
    simp (decide := true) only [f_X6_comesRight, ↓zjE, ↓reduceIte, e, zbE, zkT2]
  exact TR_mk ec hw'
set_option maxHeartbeats 4000000 in
theorem t_right_0_1 {work : Rw} (hw : Bt 64 work) (rd : Int32) (ak : Rw) (kh kl sh sl : Int64) (tag : Rw) (bg rq : Int32) (gk gm gv key mbk mpd : Rw) (fl tot : Int32) (inn sc su : Rw) : TR 0 (f_X6_comesRight (0 : Int32) (1 : Int32) rd ak kh kl sh sl tag bg rq gk gm gv key mbk mpd fl tot inn sc su work) := by
  obtain ⟨rd', ak', key', work', e, hw'⟩ := t_aeskx1_1 hw rd ak key
  have ec : f_X6_comesRight (0 : Int32) (1 : Int32) rd ak kh kl sh sl tag bg rq gk gm gv key mbk mpd fl tot inn sc su work = some (0, rd', ak', kh, kl, sh, sl, tag, bg, rq, gk, gm, gv, key', mbk, mpd, fl, tot, inn, sc, su, work') := by
    simp (decide := true) only [f_X6_comesRight, ↓zjE, ↓reduceIte, e, zbE, zkT2]
  exact TR_mk ec hw'
set_option maxHeartbeats 4000000 in
theorem t_right_1_0 {work : Rw} (hw : Bt 64 work) (rd : Int32) (ak : Rw) (kh kl sh sl : Int64) (tag : Rw) (bg rq : Int32) (gk gm gv key mbk mpd : Rw) (fl tot : Int32) (inn sc su : Rw) : TR 1 (f_X6_comesRight (1 : Int32) (0 : Int32) rd ak kh kl sh sl tag bg rq gk gm gv key mbk mpd fl tot inn sc su work) := by
  obtain ⟨rd', ak', key', work', e, hw'⟩ := t_aeskx2_0 hw rd ak key
  have ec : f_X6_comesRight (1 : Int32) (0 : Int32) rd ak kh kl sh sl tag bg rq gk gm gv key mbk mpd fl tot inn sc su work = some (1, rd', ak', kh, kl, sh, sl, tag, bg, rq, gk, gm, gv, key', mbk, mpd, fl, tot, inn, sc, su, work') := by
    simp (decide := true) only [f_X6_comesRight, ↓zjE, ↓reduceIte, e, zbE, zkT2]
  exact TR_mk ec hw'
set_option maxHeartbeats 4000000 in
theorem t_right_1_1 {work : Rw} (hw : Bt 64 work) (rd : Int32) (ak : Rw) (kh kl sh sl : Int64) (tag : Rw) (bg rq : Int32) (gk gm gv key mbk mpd : Rw) (fl tot : Int32) (inn sc su : Rw) : TR 0 (f_X6_comesRight (1 : Int32) (1 : Int32) rd ak kh kl sh sl tag bg rq gk gm gv key mbk mpd fl tot inn sc su work) := by
  obtain ⟨rd', ak', key', work', e, hw'⟩ := t_aeskx2_1 hw rd ak key
  have ec : f_X6_comesRight (1 : Int32) (1 : Int32) rd ak kh kl sh sl tag bg rq gk gm gv key mbk mpd fl tot inn sc su work = some (0, rd', ak', kh, kl, sh, sl, tag, bg, rq, gk, gm, gv, key', mbk, mpd, fl, tot, inn, sc, su, work') := by
    simp (decide := true) only [f_X6_comesRight, ↓zjE, ↓reduceIte, e, zbE, zkT2]
  exact TR_mk ec hw'
set_option maxHeartbeats 4000000 in
theorem t_right_2_0 {work : Rw} (hw : Bt 64 work) (rd : Int32) (ak : Rw) (kh kl sh sl : Int64) (tag : Rw) (bg rq : Int32) (gk gm gv key mbk mpd : Rw) (fl tot : Int32) (inn sc su : Rw) : TR 1 (f_X6_comesRight (2 : Int32) (0 : Int32) rd ak kh kl sh sl tag bg rq gk gm gv key mbk mpd fl tot inn sc su work) := by
  obtain ⟨rd', ak', key', work', e, hw'⟩ := t_cbc_0 hw rd ak key
  have ec : f_X6_comesRight (2 : Int32) (0 : Int32) rd ak kh kl sh sl tag bg rq gk gm gv key mbk mpd fl tot inn sc su work = some (1, rd', ak', kh, kl, sh, sl, tag, bg, rq, gk, gm, gv, key', mbk, mpd, fl, tot, inn, sc, su, work') := by
    simp (decide := true) only [f_X6_comesRight, ↓zjE, ↓reduceIte, e, zbE, zkT2]
  exact TR_mk ec hw'
set_option maxHeartbeats 4000000 in
theorem t_right_2_1 {work : Rw} (hw : Bt 64 work) (rd : Int32) (ak : Rw) (kh kl sh sl : Int64) (tag : Rw) (bg rq : Int32) (gk gm gv key mbk mpd : Rw) (fl tot : Int32) (inn sc su : Rw) : TR 0 (f_X6_comesRight (2 : Int32) (1 : Int32) rd ak kh kl sh sl tag bg rq gk gm gv key mbk mpd fl tot inn sc su work) := by
  obtain ⟨rd', ak', key', work', e, hw'⟩ := t_cbc_1 hw rd ak key
  have ec : f_X6_comesRight (2 : Int32) (1 : Int32) rd ak kh kl sh sl tag bg rq gk gm gv key mbk mpd fl tot inn sc su work = some (0, rd', ak', kh, kl, sh, sl, tag, bg, rq, gk, gm, gv, key', mbk, mpd, fl, tot, inn, sc, su, work') := by
    simp (decide := true) only [f_X6_comesRight, ↓zjE, ↓reduceIte, e, zbE, zkT2]
  exact TR_mk ec hw'
set_option maxHeartbeats 4000000 in
theorem t_right_3_0 {work : Rw} (hw : Bt 64 work) (rd : Int32) (ak : Rw) (kh kl sh sl : Int64) (tag : Rw) (bg rq : Int32) (gk gm gv key mbk mpd : Rw) (fl tot : Int32) (inn sc su : Rw) : TR 1 (f_X6_comesRight (3 : Int32) (0 : Int32) rd ak kh kl sh sl tag bg rq gk gm gv key mbk mpd fl tot inn sc su work) := by
  obtain ⟨rd', ak', key', mbk', mpd', work', e, hw'⟩ := t_ctr_0 hw rd ak key mbk mpd
  have ec : f_X6_comesRight (3 : Int32) (0 : Int32) rd ak kh kl sh sl tag bg rq gk gm gv key mbk mpd fl tot inn sc su work = some (1, rd', ak', kh, kl, sh, sl, tag, bg, rq, gk, gm, gv, key', mbk', mpd', fl, tot, inn, sc, su, work') := by
    simp (decide := true) only [f_X6_comesRight, ↓zjE, ↓reduceIte, e, zbE, zkT2]
  exact TR_mk ec hw'
set_option maxHeartbeats 4000000 in
theorem t_right_3_1 {work : Rw} (hw : Bt 64 work) (rd : Int32) (ak : Rw) (kh kl sh sl : Int64) (tag : Rw) (bg rq : Int32) (gk gm gv key mbk mpd : Rw) (fl tot : Int32) (inn sc su : Rw) : TR 0 (f_X6_comesRight (3 : Int32) (1 : Int32) rd ak kh kl sh sl tag bg rq gk gm gv key mbk mpd fl tot inn sc su work) := by
  obtain ⟨rd', ak', key', mbk', mpd', work', e, hw'⟩ := t_ctr_1 hw rd ak key mbk mpd
  have ec : f_X6_comesRight (3 : Int32) (1 : Int32) rd ak kh kl sh sl tag bg rq gk gm gv key mbk mpd fl tot inn sc su work = some (0, rd', ak', kh, kl, sh, sl, tag, bg, rq, gk, gm, gv, key', mbk', mpd', fl, tot, inn, sc, su, work') := by
    simp (decide := true) only [f_X6_comesRight, ↓zjE, ↓reduceIte, e, zbE, zkT2]
  exact TR_mk ec hw'
set_option maxHeartbeats 4000000 in
theorem t_right_4_0 {work : Rw} (hw : Bt 64 work) (rd : Int32) (ak : Rw) (kh kl sh sl : Int64) (tag : Rw) (bg rq : Int32) (gk gm gv key mbk mpd : Rw) (fl tot : Int32) (inn sc su : Rw) : TR 1 (f_X6_comesRight (4 : Int32) (0 : Int32) rd ak kh kl sh sl tag bg rq gk gm gv key mbk mpd fl tot inn sc su work) := by
  obtain ⟨rd', ak', kh', kl', sh', sl', tag', key', mbk', mpd', work', e, hw'⟩ := t_gcm_0 rd ak kh kl sh sl tag key mbk mpd work
  have ec : f_X6_comesRight (4 : Int32) (0 : Int32) rd ak kh kl sh sl tag bg rq gk gm gv key mbk mpd fl tot inn sc su work = some (1, rd', ak', kh', kl', sh', sl', tag', bg, rq, gk, gm, gv, key', mbk', mpd', fl, tot, inn, sc, su, work') := by
    simp (decide := true) only [f_X6_comesRight, ↓zjE, ↓reduceIte, e, zbE, zkT2]
  exact TR_mk ec hw'
set_option maxHeartbeats 4000000 in
theorem t_right_4_1 {work : Rw} (hw : Bt 64 work) (rd : Int32) (ak : Rw) (kh kl sh sl : Int64) (tag : Rw) (bg rq : Int32) (gk gm gv key mbk mpd : Rw) (fl tot : Int32) (inn sc su : Rw) : TR 0 (f_X6_comesRight (4 : Int32) (1 : Int32) rd ak kh kl sh sl tag bg rq gk gm gv key mbk mpd fl tot inn sc su work) := by
  obtain ⟨rd', ak', kh', kl', sh', sl', tag', key', mbk', mpd', work', e, hw'⟩ := t_gcm_1 rd ak kh kl sh sl tag key mbk mpd work
  have ec : f_X6_comesRight (4 : Int32) (1 : Int32) rd ak kh kl sh sl tag bg rq gk gm gv key mbk mpd fl tot inn sc su work = some (0, rd', ak', kh', kl', sh', sl', tag', bg, rq, gk, gm, gv, key', mbk', mpd', fl, tot, inn, sc, su, work') := by
    simp (decide := true) only [f_X6_comesRight, ↓zjE, ↓reduceIte, e, zbE, zkT2]
  exact TR_mk ec hw'
set_option maxHeartbeats 4000000 in
theorem t_right_5_0 {work : Rw} (hw : Bt 64 work) (rd : Int32) (ak : Rw) (kh kl sh sl : Int64) (tag : Rw) (bg rq : Int32) (gk gm gv key mbk mpd : Rw) (fl tot : Int32) (inn sc su : Rw) : TR 1 (f_X6_comesRight (5 : Int32) (0 : Int32) rd ak kh kl sh sl tag bg rq gk gm gv key mbk mpd fl tot inn sc su work) := by
  obtain ⟨rd1, ak1, key1, mbk1, mpd1, work1, e1, hw1⟩ := t_cmac_0_0 hw rd ak key mbk mpd
  obtain ⟨rd', ak', key', mbk', mpd', work', e2, hw'⟩ := t_cmac_16_0 hw1 rd1 ak1 key1 mbk1 mpd1
  have ec : f_X6_comesRight (5 : Int32) (0 : Int32) rd ak kh kl sh sl tag bg rq gk gm gv key mbk mpd fl tot inn sc su work = some (1, rd', ak', kh, kl, sh, sl, tag, bg, rq, gk, gm, gv, key', mbk', mpd', fl, tot, inn, sc, su, work') := by
    simp (decide := true) only [f_X6_comesRight, ↓zjE, ↓reduceIte, e1, e2, zbE, zkT2]
  exact TR_mk ec hw'
set_option maxHeartbeats 4000000 in
theorem t_right_5_1 {work : Rw} (hw : Bt 64 work) (rd : Int32) (ak : Rw) (kh kl sh sl : Int64) (tag : Rw) (bg rq : Int32) (gk gm gv key mbk mpd : Rw) (fl tot : Int32) (inn sc su : Rw) : TR 0 (f_X6_comesRight (5 : Int32) (1 : Int32) rd ak kh kl sh sl tag bg rq gk gm gv key mbk mpd fl tot inn sc su work) := by
  obtain ⟨rd1, ak1, key1, mbk1, mpd1, work1, e1, hw1⟩ := t_cmac_0_0 hw rd ak key mbk mpd
  obtain ⟨rd', ak', key', mbk', mpd', work', e2, hw'⟩ := t_cmac_16_1 hw1 rd1 ak1 key1 mbk1 mpd1
  have ec : f_X6_comesRight (5 : Int32) (1 : Int32) rd ak kh kl sh sl tag bg rq gk gm gv key mbk mpd fl tot inn sc su work = some (0, rd', ak', kh, kl, sh, sl, tag, bg, rq, gk, gm, gv, key', mbk', mpd', fl, tot, inn, sc, su, work') := by
    simp (decide := true) only [f_X6_comesRight, ↓zjE, ↓reduceIte, e1, e2, zbE, zkT2]
  exact TR_mk ec hw'
set_option maxHeartbeats 4000000 in
theorem t_right_6_0 {work : Rw} (hw : Bt 64 work) (rd : Int32) (ak : Rw) (kh kl sh sl : Int64) (tag : Rw) (bg rq : Int32) (gk gm gv key mbk mpd : Rw) (fl tot : Int32) (inn sc su : Rw) : TR 1 (f_X6_comesRight (6 : Int32) (0 : Int32) rd ak kh kl sh sl tag bg rq gk gm gv key mbk mpd fl tot inn sc su work) := by
  obtain ⟨fl', tot', sc', su', work', e, hw'⟩ := t_sha_0 hw fl tot sc su
  have ec : f_X6_comesRight (6 : Int32) (0 : Int32) rd ak kh kl sh sl tag bg rq gk gm gv key mbk mpd fl tot inn sc su work = some (1, rd, ak, kh, kl, sh, sl, tag, bg, rq, gk, gm, gv, key, mbk, mpd, fl', tot', inn, sc', su', work') := by
    simp (decide := true) only [f_X6_comesRight, ↓zjE, ↓reduceIte, e, zbE, zkT2]
  exact TR_mk ec hw'
set_option maxHeartbeats 4000000 in
theorem t_right_6_1 {work : Rw} (hw : Bt 64 work) (rd : Int32) (ak : Rw) (kh kl sh sl : Int64) (tag : Rw) (bg rq : Int32) (gk gm gv key mbk mpd : Rw) (fl tot : Int32) (inn sc su : Rw) : TR 0 (f_X6_comesRight (6 : Int32) (1 : Int32) rd ak kh kl sh sl tag bg rq gk gm gv key mbk mpd fl tot inn sc su work) := by
  obtain ⟨fl', tot', sc', su', work', e, hw'⟩ := t_sha_1 hw fl tot sc su
  have ec : f_X6_comesRight (6 : Int32) (1 : Int32) rd ak kh kl sh sl tag bg rq gk gm gv key mbk mpd fl tot inn sc su work = some (0, rd, ak, kh, kl, sh, sl, tag, bg, rq, gk, gm, gv, key, mbk, mpd, fl', tot', inn, sc', su', work') := by
    simp (decide := true) only [f_X6_comesRight, ↓zjE, ↓reduceIte, e, zbE, zkT2]
  exact TR_mk ec hw'
set_option maxHeartbeats 4000000 in
theorem t_right_7_0 {work : Rw} (hw : Bt 64 work) (rd : Int32) (ak : Rw) (kh kl sh sl : Int64) (tag : Rw) (bg rq : Int32) (gk gm gv key mbk mpd : Rw) (fl tot : Int32) (inn sc su : Rw) : TR 1 (f_X6_comesRight (7 : Int32) (0 : Int32) rd ak kh kl sh sl tag bg rq gk gm gv key mbk mpd fl tot inn sc su work) := by
  obtain ⟨key', fl', tot', inn', sc', su', work', e, hw'⟩ := t_hmac_0 hw key fl tot inn sc su
  have ec : f_X6_comesRight (7 : Int32) (0 : Int32) rd ak kh kl sh sl tag bg rq gk gm gv key mbk mpd fl tot inn sc su work = some (1, rd, ak, kh, kl, sh, sl, tag, bg, rq, gk, gm, gv, key', mbk, mpd, fl', tot', inn', sc', su', work') := by
    simp (decide := true) only [f_X6_comesRight, ↓zjE, ↓reduceIte, e, zbE, zkT2]
  exact TR_mk ec hw'
set_option maxHeartbeats 4000000 in
theorem t_right_7_1 {work : Rw} (hw : Bt 64 work) (rd : Int32) (ak : Rw) (kh kl sh sl : Int64) (tag : Rw) (bg rq : Int32) (gk gm gv key mbk mpd : Rw) (fl tot : Int32) (inn sc su : Rw) : TR 0 (f_X6_comesRight (7 : Int32) (1 : Int32) rd ak kh kl sh sl tag bg rq gk gm gv key mbk mpd fl tot inn sc su work) := by
  obtain ⟨key', fl', tot', inn', sc', su', work', e, hw'⟩ := t_hmac_1 hw key fl tot inn sc su
  have ec : f_X6_comesRight (7 : Int32) (1 : Int32) rd ak kh kl sh sl tag bg rq gk gm gv key mbk mpd fl tot inn sc su work = some (0, rd, ak, kh, kl, sh, sl, tag, bg, rq, gk, gm, gv, key', mbk, mpd, fl', tot', inn', sc', su', work') := by
    simp (decide := true) only [f_X6_comesRight, ↓zjE, ↓reduceIte, e, zbE, zkT2]
  exact TR_mk ec hw'
set_option maxHeartbeats 4000000 in
theorem t_right_8_0 {work : Rw} (hw : Bt 64 work) (rd : Int32) (ak : Rw) (kh kl sh sl : Int64) (tag : Rw) (bg rq : Int32) (gk gm gv key mbk mpd : Rw) (fl tot : Int32) (inn sc su : Rw) : TR 1 (f_X6_comesRight (8 : Int32) (0 : Int32) rd ak kh kl sh sl tag bg rq gk gm gv key mbk mpd fl tot inn sc su work) := by
  obtain ⟨rd', ak', key', mbk', work', e, hw'⟩ := t_wrap_0 hw rd ak key mbk
  have ec : f_X6_comesRight (8 : Int32) (0 : Int32) rd ak kh kl sh sl tag bg rq gk gm gv key mbk mpd fl tot inn sc su work = some (1, rd', ak', kh, kl, sh, sl, tag, bg, rq, gk, gm, gv, key', mbk', mpd, fl, tot, inn, sc, su, work') := by
    simp (decide := true) only [f_X6_comesRight, ↓zjE, ↓reduceIte, e, zbE, zkT2]
  exact TR_mk ec hw'
set_option maxHeartbeats 4000000 in
theorem t_right_8_1 {work : Rw} (hw : Bt 64 work) (rd : Int32) (ak : Rw) (kh kl sh sl : Int64) (tag : Rw) (bg rq : Int32) (gk gm gv key mbk mpd : Rw) (fl tot : Int32) (inn sc su : Rw) : TR 0 (f_X6_comesRight (8 : Int32) (1 : Int32) rd ak kh kl sh sl tag bg rq gk gm gv key mbk mpd fl tot inn sc su work) := by
  obtain ⟨rd', ak', key', mbk', work', e, hw'⟩ := t_wrap_1 hw rd ak key mbk
  have ec : f_X6_comesRight (8 : Int32) (1 : Int32) rd ak kh kl sh sl tag bg rq gk gm gv key mbk mpd fl tot inn sc su work = some (0, rd', ak', kh, kl, sh, sl, tag, bg, rq, gk, gm, gv, key', mbk', mpd, fl, tot, inn, sc, su, work') := by
    simp (decide := true) only [f_X6_comesRight, ↓zjE, ↓reduceIte, e, zbE, zkT2]
  exact TR_mk ec hw'
set_option maxHeartbeats 4000000 in
theorem t_right_9_0 {work : Rw} (hw : Bt 64 work) (rd : Int32) (ak : Rw) (kh kl sh sl : Int64) (tag : Rw) (bg rq : Int32) (gk gm gv key mbk mpd : Rw) (fl tot : Int32) (inn sc su : Rw) : TR 1 (f_X6_comesRight (9 : Int32) (0 : Int32) rd ak kh kl sh sl tag bg rq gk gm gv key mbk mpd fl tot inn sc su work) := by
  obtain ⟨bg1, rq1, gk1, gm1, gv1, fl1, tot1, inn1, sc1, su1, work1, e1, hw1⟩ := t_drawK hw bg rq gk gm gv key fl tot inn sc su
  obtain ⟨bg', rq', gk', gm', gv', fl', tot', inn', sc', su', work', e2, hw', h2⟩ := t_drawW_0 hw1 bg1 rq1 gk1 gm1 gv1 fl1 tot1 inn1 sc1 su1
  obtain ⟨r, e3, g3⟩ := p_X9_alike0 (c0 := zrow 0 32 (fun t => sB (dO0 t)) key) (m0 := dO0) (m2 := dO0) (fun t ht => zrow_0 ht) h2 dO0_u dO0_u
  have hr : r = 1 := by
    rcases g3 with ⟨h, q⟩ | ⟨h, q⟩
    · exact h
    · exact absurd (fun _ _ => rfl) q
  subst hr
  have ec : f_X6_comesRight (9 : Int32) (0 : Int32) rd ak kh kl sh sl tag bg rq gk gm gv key mbk mpd fl tot inn sc su work = some (1, rd, ak, kh, kl, sh, sl, tag, bg', rq', gk', gm', gv', zrow 0 32 (fun t => sB (dO0 t)) key, mbk, mpd, fl', tot', inn', sc', su', work') := by
    simp (decide := true) only [f_X6_comesRight, ↓zjE, ↓reduceIte, e1, e2, e3, zbE, zkT2]
  exact TR_mk ec hw'
set_option maxHeartbeats 4000000 in
theorem t_right_9_1 {work : Rw} (hw : Bt 64 work) (rd : Int32) (ak : Rw) (kh kl sh sl : Int64) (tag : Rw) (bg rq : Int32) (gk gm gv key mbk mpd : Rw) (fl tot : Int32) (inn sc su : Rw) : TR 0 (f_X6_comesRight (9 : Int32) (1 : Int32) rd ak kh kl sh sl tag bg rq gk gm gv key mbk mpd fl tot inn sc su work) := by
  obtain ⟨bg1, rq1, gk1, gm1, gv1, fl1, tot1, inn1, sc1, su1, work1, e1, hw1⟩ := t_drawK hw bg rq gk gm gv key fl tot inn sc su
  obtain ⟨bg', rq', gk', gm', gv', fl', tot', inn', sc', su', work', e2, hw', h2⟩ := t_drawW_1 hw1 bg1 rq1 gk1 gm1 gv1 fl1 tot1 inn1 sc1 su1
  obtain ⟨r, e3, g3⟩ := p_X9_alike0 (c0 := zrow 0 32 (fun t => sB (dO0 t)) key) (m0 := dO0) (m2 := dO1) (fun t ht => zrow_0 ht) h2 dO0_u dO1_u
  have hr : r = 0 := by
    rcases g3 with ⟨h, q⟩ | ⟨h, q⟩
    · exact absurd (q 0 (by omega)) dr_ne
    · exact h
  subst hr
  have ec : f_X6_comesRight (9 : Int32) (1 : Int32) rd ak kh kl sh sl tag bg rq gk gm gv key mbk mpd fl tot inn sc su work = some (0, rd, ak, kh, kl, sh, sl, tag, bg', rq', gk', gm', gv', zrow 0 32 (fun t => sB (dO0 t)) key, mbk, mpd, fl', tot', inn', sc', su', work') := by
    simp (decide := true) only [f_X6_comesRight, ↓zjE, ↓reduceIte, e1, e2, e3, zbE, zkT2]
  exact TR_mk ec hw'
theorem t_right {t : Nat} (ht : t < 10) {p : Int32} (hp : p = 0 ∨ p = 1) {work : Rw} (hw : Bt 64 work) (rd : Int32) (ak : Rw) (kh kl sh sl : Int64) (tag : Rw) (bg rq : Int32) (gk gm gv key mbk mpd : Rw) (fl tot : Int32) (inn sc su : Rw) : TR (1 - p) (f_X6_comesRight (nI t) p rd ak kh kl sh sl tag bg rq gk gm gv key mbk mpd fl tot inn sc su work) := by
  have hc : t = 0 ∨ t = 1 ∨ t = 2 ∨ t = 3 ∨ t = 4 ∨ t = 5 ∨ t = 6 ∨ t = 7 ∨ t = 8 ∨ t = 9 := by omega
  rcases hc with rfl | rfl | rfl | rfl | rfl | rfl | rfl | rfl | rfl | rfl
  · rcases hp with rfl | rfl
    · exact t_right_0_0 hw rd ak kh kl sh sl tag bg rq gk gm gv key mbk mpd fl tot inn sc su
    · exact t_right_0_1 hw rd ak kh kl sh sl tag bg rq gk gm gv key mbk mpd fl tot inn sc su
  · rcases hp with rfl | rfl
    · exact t_right_1_0 hw rd ak kh kl sh sl tag bg rq gk gm gv key mbk mpd fl tot inn sc su
    · exact t_right_1_1 hw rd ak kh kl sh sl tag bg rq gk gm gv key mbk mpd fl tot inn sc su
  · rcases hp with rfl | rfl
    · exact t_right_2_0 hw rd ak kh kl sh sl tag bg rq gk gm gv key mbk mpd fl tot inn sc su
    · exact t_right_2_1 hw rd ak kh kl sh sl tag bg rq gk gm gv key mbk mpd fl tot inn sc su
  · rcases hp with rfl | rfl
    · exact t_right_3_0 hw rd ak kh kl sh sl tag bg rq gk gm gv key mbk mpd fl tot inn sc su
    · exact t_right_3_1 hw rd ak kh kl sh sl tag bg rq gk gm gv key mbk mpd fl tot inn sc su
  · rcases hp with rfl | rfl
    · exact t_right_4_0 hw rd ak kh kl sh sl tag bg rq gk gm gv key mbk mpd fl tot inn sc su
    · exact t_right_4_1 hw rd ak kh kl sh sl tag bg rq gk gm gv key mbk mpd fl tot inn sc su
  · rcases hp with rfl | rfl
    · exact t_right_5_0 hw rd ak kh kl sh sl tag bg rq gk gm gv key mbk mpd fl tot inn sc su
    · exact t_right_5_1 hw rd ak kh kl sh sl tag bg rq gk gm gv key mbk mpd fl tot inn sc su
  · rcases hp with rfl | rfl
    · exact t_right_6_0 hw rd ak kh kl sh sl tag bg rq gk gm gv key mbk mpd fl tot inn sc su
    · exact t_right_6_1 hw rd ak kh kl sh sl tag bg rq gk gm gv key mbk mpd fl tot inn sc su
  · rcases hp with rfl | rfl
    · exact t_right_7_0 hw rd ak kh kl sh sl tag bg rq gk gm gv key mbk mpd fl tot inn sc su
    · exact t_right_7_1 hw rd ak kh kl sh sl tag bg rq gk gm gv key mbk mpd fl tot inn sc su
  · rcases hp with rfl | rfl
    · exact t_right_8_0 hw rd ak kh kl sh sl tag bg rq gk gm gv key mbk mpd fl tot inn sc su
    · exact t_right_8_1 hw rd ak kh kl sh sl tag bg rq gk gm gv key mbk mpd fl tot inn sc su
  · rcases hp with rfl | rfl
    · exact t_right_9_0 hw rd ak kh kl sh sl tag bg rq gk gm gv key mbk mpd fl tot inn sc su
    · exact t_right_9_1 hw rd ak kh kl sh sl tag bg rq gk gm gv key mbk mpd fl tot inn sc su
