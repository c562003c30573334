/-! the model's constructor -/
def afS (r : Int32) (i : Nat) (a : Int32) : Int32 := a ^^^ (((r <<< (nI i &&& 31)) ||| (r >>> (((8 : Int32) - nI i) &&& 31))) &&& (255 : Int32))
theorem l_init746 (r : Int32) (K : Int32 → Option _) : zl (b_X10_init_746 r K) zF ((99 : Int32), (0 : Int32)) = K (zit (afS r) 0 5 99) := by
  refine (zl_it (F := b_X10_init_746 r K) (fun i a => (a, nI i)) K (afS r) (fun _ _ => True) 5 ?_ ?_ 5 0 99 rfl trivial zF (by have := zF_big; omega)).1
  · intro self a _
    simp only [b_X10_init_746]
    exact if_pos (by decide)
  · intro self i a hi _
    refine ⟨?_, trivial⟩
    simp only [b_X10_init_746]
    rw [if_neg (show ¬ (5 : Int32) ≤ nI i from nI_ge (b := 5) hi (by omega)), znE, zA]
    rfl
theorem af_box : ∀ i, i < 256 → zit (afS (nI (inN i))) 0 5 99 = tb_BOX.getD i 0 := by decide +kernel
def vb (i : Nat) : Nat := (tb_BOX.getD i 0).toNatClampNeg
theorem vb_lt : ∀ i, i < 256 → vb i < 256 ∧ tb_BOX.getD i 0 = nI (vb i) ∧ tb_BOX_BACK.getD (vb i) 0 = nI i := by decide +kernel
theorem vb_bk : ∀ v, v < 256 → vb (tb_BOX_BACK.getD v 0).toNatClampNeg = v ∧ (tb_BOX_BACK.getD v 0).toNatClampNeg < 256 ∧ nI (tb_BOX_BACK.getD v 0).toNatClampNeg = tb_BOX_BACK.getD v 0 := by decide +kernel
theorem vb_inj {i k : Nat} (hi : i < 256) (hk : k < 256) (h : vb i = vb k) : i = k := by
  have e1 := (vb_lt i hi).2.2
  have e2 := (vb_lt k hk).2.2
  rw [h, e2] at e1
  exact ((nI_eq (by omega) (by omega)).mp e1).symm
theorem l_init728 (K : Rw → Rw → Option _) (P : Option _ → Prop) (h : ∀ bk bx, (∀ k, k < 256 → bx k = tb_BOX.getD k 0) → (∀ k, k < 256 → bk k = tb_BOX_BACK.getD k 0) → P (K bk bx)) (a b : Rw) : P (zl (b_X10_init_728 K) zF ((0 : Int32), a, b)) := by
  refine zl_up (F := b_X10_init_728 K) (fun i (s : Rw × Rw) => (nI i, s)) (fun i s => (∀ k, k < i → s.2 k = tb_BOX.getD k 0) ∧ ∀ k, k < i → s.1 (vb k) = nI k) 0 256 (a, b) P (by omega) (by omega) ⟨fun k hk => by omega, fun k hk => by omega⟩ ?_ ?_
  · intro self s hs
    obtain ⟨bk, bx⟩ := s
    simp only [b_X10_init_728]
    rw [if_pos (by decide)]
    refine h bk bx hs.1 (fun v hv => ?_)
    obtain ⟨e1, e2, e3⟩ := vb_bk v hv
    have := hs.2 _ e2
    rw [e1, e3] at this
    exact this
  · intro self i s _ hi hs
    obtain ⟨bk, bx⟩ := s
    simp only [b_X10_init_728]
    obtain ⟨v1, v2, v3⟩ := vb_lt i hi
    rw [if_neg (show ¬ (256 : Int32) ≤ nI i from nI_ge (b := 256) hi (by omega)), p_X10_inverse hi, zbE, zjE, l_init746, af_box i hi, v2, zk_T (nI_in hi (by omega)), znE, zk_T (nI_in v1 (by omega)), znE, nI_clamp (n := i) (by omega), nI_clamp (n := vb i) (by omega), zA]
    refine ⟨(upd bk (vb i) (nI i), upd bx i (nI (vb i))), ⟨fun k hk => ?_, fun k hk => ?_⟩, rfl⟩
    · show upd bx i (nI (vb i)) k = _
      by_cases q : k = i
      · rw [q, upd_s, ← v2]
      · rw [upd_n _ _ q]; exact hs.1 k (by omega)
    · show upd bk (vb i) (nI i) (vb k) = _
      by_cases q : k = i
      · rw [q, upd_s]
      · rw [upd_n _ _ (fun z => q (vb_inj (by omega) hi z))]; exact hs.2 k (by omega)
def roR : Rw := (upd (upd (upd (upd (upd (upd (upd (upd (upd (upd (upd (upd (upd (upd (upd (upd (upd (upd (upd (upd (upd (upd (upd (upd (upd (upd (upd (upd (upd (upd (upd (upd (upd (upd (upd (upd (upd (upd (upd (upd (upd (upd (upd (upd (upd (upd (upd (upd (upd (upd (upd (upd (upd (upd (upd (upd (upd (upd (upd (upd (upd (upd (upd (upd (fun _ => 0) (0 : Int32).toNatClampNeg (1116352408 : Int32)) (1 : Int32).toNatClampNeg (1899447441 : Int32)) (2 : Int32).toNatClampNeg (-1245643825 : Int32)) (3 : Int32).toNatClampNeg (-373957723 : Int32)) (4 : Int32).toNatClampNeg (961987163 : Int32)) (5 : Int32).toNatClampNeg (1508970993 : Int32)) (6 : Int32).toNatClampNeg (-1841331548 : Int32)) (7 : Int32).toNatClampNeg (-1424204075 : Int32)) (8 : Int32).toNatClampNeg (-670586216 : Int32)) (9 : Int32).toNatClampNeg (310598401 : Int32)) (10 : Int32).toNatClampNeg (607225278 : Int32)) (11 : Int32).toNatClampNeg (1426881987 : Int32)) (12 : Int32).toNatClampNeg (1925078388 : Int32)) (13 : Int32).toNatClampNeg (-2132889090 : Int32)) (14 : Int32).toNatClampNeg (-1680079193 : Int32)) (15 : Int32).toNatClampNeg (-1046744716 : Int32)) (16 : Int32).toNatClampNeg (-459576895 : Int32)) (17 : Int32).toNatClampNeg (-272742522 : Int32)) (18 : Int32).toNatClampNeg (264347078 : Int32)) (19 : Int32).toNatClampNeg (604807628 : Int32)) (20 : Int32).toNatClampNeg (770255983 : Int32)) (21 : Int32).toNatClampNeg (1249150122 : Int32)) (22 : Int32).toNatClampNeg (1555081692 : Int32)) (23 : Int32).toNatClampNeg (1996064986 : Int32)) (24 : Int32).toNatClampNeg (-1740746414 : Int32)) (25 : Int32).toNatClampNeg (-1473132947 : Int32)) (26 : Int32).toNatClampNeg (-1341970488 : Int32)) (27 : Int32).toNatClampNeg (-1084653625 : Int32)) (28 : Int32).toNatClampNeg (-958395405 : Int32)) (29 : Int32).toNatClampNeg (-710438585 : Int32)) (30 : Int32).toNatClampNeg (113926993 : Int32)) (31 : Int32).toNatClampNeg (338241895 : Int32)) (32 : Int32).toNatClampNeg (666307205 : Int32)) (33 : Int32).toNatClampNeg (773529912 : Int32)) (34 : Int32).toNatClampNeg (1294757372 : Int32)) (35 : Int32).toNatClampNeg (1396182291 : Int32)) (36 : Int32).toNatClampNeg (1695183700 : Int32)) (37 : Int32).toNatClampNeg (1986661051 : Int32)) (38 : Int32).toNatClampNeg (-2117940946 : Int32)) (39 : Int32).toNatClampNeg (-1838011259 : Int32)) (40 : Int32).toNatClampNeg (-1564481375 : Int32)) (41 : Int32).toNatClampNeg (-1474664885 : Int32)) (42 : Int32).toNatClampNeg (-1035236496 : Int32)) (43 : Int32).toNatClampNeg (-949202525 : Int32)) (44 : Int32).toNatClampNeg (-778901479 : Int32)) (45 : Int32).toNatClampNeg (-694614492 : Int32)) (46 : Int32).toNatClampNeg (-200395387 : Int32)) (47 : Int32).toNatClampNeg (275423344 : Int32)) (48 : Int32).toNatClampNeg (430227734 : Int32)) (49 : Int32).toNatClampNeg (506948616 : Int32)) (50 : Int32).toNatClampNeg (659060556 : Int32)) (51 : Int32).toNatClampNeg (883997877 : Int32)) (52 : Int32).toNatClampNeg (958139571 : Int32)) (53 : Int32).toNatClampNeg (1322822218 : Int32)) (54 : Int32).toNatClampNeg (1537002063 : Int32)) (55 : Int32).toNatClampNeg (1747873779 : Int32)) (56 : Int32).toNatClampNeg (1955562222 : Int32)) (57 : Int32).toNatClampNeg (2024104815 : Int32)) (58 : Int32).toNatClampNeg (-2067236844 : Int32)) (59 : Int32).toNatClampNeg (-1933114872 : Int32)) (60 : Int32).toNatClampNeg (-1866530822 : Int32)) (61 : Int32).toNatClampNeg (-1538233109 : Int32)) (62 : Int32).toNatClampNeg (-1090935817 : Int32)) (63 : Int32).toNatClampNeg (-965641998 : Int32))
def stR : Rw := (upd (upd (upd (upd (upd (upd (upd (upd (fun _ => 0) (0 : Int32).toNatClampNeg (1779033703 : Int32)) (1 : Int32).toNatClampNeg (-1150833019 : Int32)) (2 : Int32).toNatClampNeg (1013904242 : Int32)) (3 : Int32).toNatClampNeg (-1521486534 : Int32)) (4 : Int32).toNatClampNeg (1359893119 : Int32)) (5 : Int32).toNatClampNeg (-1694144372 : Int32)) (6 : Int32).toNatClampNeg (528734635 : Int32)) (7 : Int32).toNatClampNeg (1541459225 : Int32))
def piR : Rw := (upd (upd (upd (fun _ => 0) (0 : Int32).toNatClampNeg (0 : Int32)) (1 : Int32).toNatClampNeg (1111 : Int32)) (2 : Int32).toNatClampNeg (2222 : Int32))
def tkR : Nat → Int64 := (vp_updL (vp_updL (vp_updL (fun _ => 0) (0 : Int32).toNatClampNeg (-1 : Int64)) (1 : Int32).toNatClampNeg (-1 : Int64)) (2 : Int32).toNatClampNeg (-1 : Int64))
theorem roR_eq : ∀ j, j < 64 → roR j = tb_CONSTANTS.getD j 0 := by decide +kernel
theorem stR_eq : ∀ j, j < 8 → stR j = tb_BEGINNING.getD j 0 := by decide +kernel
theorem piR_eq : piR 1 = 1111 ∧ piR 2 = 2222 := by decide +kernel
theorem tkR_eq : tkR 1 = -1 ∧ tkR 2 = -1 := by decide +kernel
set_option maxHeartbeats 8000000 in
set_option maxRecDepth 100000 in
theorem p_X10_init : ∃ bx bk, f_X10_init = some ((0 : Int32), (0 : Int32), (0 : Int32), (0 : Int32), (0 : Int32), (0 : Int32), (0 : Int32), (0 : Int32), (0 : Int32), (0 : Int32), (0 : Int32), (0 : Int32), (0 : Int64), (0 : Int32), (0 : Int32), (0 : Int64), (0 : Int64), (0 : Int64), (0 : Int64), roR, (fun _ => 0), (fun _ => 0), (fun _ => 0), piR, (fun _ => 0), (fun _ => 0), (fun _ => 0), (fun _ => 0), (fun _ => 0), (fun _ => 0), (fun _ => 0), (fun _ => 0), (fun _ => 0), (fun _ => 0), tkR, (fun _ => 0), (fun _ => 0), (fun _ => 0), (fun _ => 0), (fun _ => 0), (fun _ => 0), (fun _ => 0), (fun _ => 0), (fun _ => 0), bx, bk, (fun _ => 0), (fun _ => 0), (fun _ => 0), (fun _ => 0), (fun _ => 0), stR) ∧ Rtb roR stR bx bk := by
  have e : f_X10_init = zl (b_X10_init_728 (fun bk bx => some ((0 : Int32), (0 : Int32), (0 : Int32), (0 : Int32), (0 : Int32), (0 : Int32), (0 : Int32), (0 : Int32), (0 : Int32), (0 : Int32), (0 : Int32), (0 : Int32), (0 : Int64), (0 : Int32), (0 : Int32), (0 : Int64), (0 : Int64), (0 : Int64), (0 : Int64), roR, (fun _ => 0), (fun _ => 0), (fun _ => 0), piR, (fun _ => 0), (fun _ => 0), (fun _ => 0), (fun _ => 0), (fun _ => 0), (fun _ => 0), (fun _ => 0), (fun _ => 0), (fun _ => 0), (fun _ => 0), tkR, (fun _ => 0), (fun _ => 0), (fun _ => 0), (fun _ => 0), (fun _ => 0), (fun _ => 0), (fun _ => 0), (fun _ => 0), (fun _ => 0), bx, bk, (fun _ => 0), (fun _ => 0), (fun _ => 0), (fun _ => 0), (fun _ => 0), stR))) zF ((0 : Int32), (fun _ => 0), (fun _ => 0)) := by
    unfold f_X10_init
    simp (decide := true) only [zkT1, znE, zjE]
    rfl
  rw [e]
  exact l_init728 (fun bk bx => some ((0 : Int32), (0 : Int32), (0 : Int32), (0 : Int32), (0 : Int32), (0 : Int32), (0 : Int32), (0 : Int32), (0 : Int32), (0 : Int32), (0 : Int32), (0 : Int32), (0 : Int64), (0 : Int32), (0 : Int32), (0 : Int64), (0 : Int64), (0 : Int64), (0 : Int64), roR, (fun _ => 0), (fun _ => 0), (fun _ => 0), piR, (fun _ => 0), (fun _ => 0), (fun _ => 0), (fun _ => 0), (fun _ => 0), (fun _ => 0), (fun _ => 0), (fun _ => 0), (fun _ => 0), (fun _ => 0), tkR, (fun _ => 0), (fun _ => 0), (fun _ => 0), (fun _ => 0), (fun _ => 0), (fun _ => 0), (fun _ => 0), (fun _ => 0), (fun _ => 0), bx, bk, (fun _ => 0), (fun _ => 0), (fun _ => 0), (fun _ => 0), (fun _ => 0), stR)) (fun o => ∃ bx bk, o = some ((0 : Int32), (0 : Int32), (0 : Int32), (0 : Int32), (0 : Int32), (0 : Int32), (0 : Int32), (0 : Int32), (0 : Int32), (0 : Int32), (0 : Int32), (0 : Int32), (0 : Int64), (0 : Int32), (0 : Int32), (0 : Int64), (0 : Int64), (0 : Int64), (0 : Int64), roR, (fun _ => 0), (fun _ => 0), (fun _ => 0), piR, (fun _ => 0), (fun _ => 0), (fun _ => 0), (fun _ => 0), (fun _ => 0), (fun _ => 0), (fun _ => 0), (fun _ => 0), (fun _ => 0), (fun _ => 0), tkR, (fun _ => 0), (fun _ => 0), (fun _ => 0), (fun _ => 0), (fun _ => 0), (fun _ => 0), (fun _ => 0), (fun _ => 0), (fun _ => 0), bx, bk, (fun _ => 0), (fun _ => 0), (fun _ => 0), (fun _ => 0), (fun _ => 0), stR) ∧ Rtb roR stR bx bk) (fun bk bx h1 h2 => ⟨bx, bk, rfl, roR_eq, stR_eq, h1, h2⟩) _ _
