theorem zrow_glue {a m k : Nat} {G g f : Nat → Int32} (h : ∀ j, j < k → g j = G (m + j)) : zrow (a + m) k g (zrow a m G f) = zrow a (m + k) G f := by
  funext j
  rcases (show (a ≤ j ∧ j < a + m) ∨ (a + m ≤ j ∧ j < a + m + k) ∨ j < a ∨ a + m + k ≤ j by omega) with ⟨h1, h2⟩ | ⟨h1, h2⟩ | h1
  · rw [zrow_out (by omega), zrow_in h1 h2, zrow_in h1 (by omega)]
  · rw [zrow_in h1 h2, zrow_in (by omega) (by omega), h _ (by omega), show m + (j - (a + m)) = j - a by omega]
  · rw [zrow_out (by omega), zrow_out (by omega), zrow_out (by omega)]
theorem zrow_congr {a n : Nat} {g k f : Nat → Int32} (h : ∀ j, j < n → g j = k j) : zrow a n g f = zrow a n k f := by
  funext j
  by_cases hj : a ≤ j ∧ j < a + n
  · rw [zrow_in hj.1 hj.2, zrow_in hj.1 hj.2, h _ (by omega)]
  · rw [zrow_out (by omega), zrow_out (by omega)]
theorem zrow_n0 {a : Nat} {g f : Nat → Int32} : zrow a 0 g f = f := by
  funext j
  exact zrow_out (by omega)
theorem shDB_w {h : Nat → Int32} {i j : Nat} (hj : j < 4) : shDB h (4 * i + j) = wB (h i) j := by
  unfold shDB wB
  rw [show (4 * i + j) / 4 = i by omega, show 4 * i + j - i * 4 = j by omega]
set_option maxHeartbeats 4000000 in
theorem p_X7_end_out {N a : Nat} (su ca : Nat → Int32) (K : (Nat → Int32) → Option (Int32 × (Nat → Int32) × (Nat → Int32) × (Nat → Int32))) (hN : a + 32 ≤ N) (hN2 : N ≤ 1500) :
    zl (b_X7_end_97 N (nI a) su K) zF ((0 : Int32), ca) = K (zrow a 32 (fun j => sB (shDB su j)) ca) := by
  refine zl_up (F := b_X7_end_97 N (nI a) su K) (fun i (s : Nat → Int32) => (nI i, s)) (fun i s => s = zrow a (4 * i) (fun j => sB (shDB su j)) ca) 0 8 ca (fun o => o = K (zrow a 32 (fun j => sB (shDB su j)) ca)) (by omega) (by omega) zrow_n0.symm ?_ ?_
  · intro self s hs
    subst hs
    simp only [b_X7_end_97]
    exact if_pos (by decide)
  · intro self i s _ hi hs
    subst hs
    refine ⟨_, rfl, ?_⟩
    have e := p_X9_putInt (N := N) (a := a + 4 * i) (su i) (zrow a (4 * i) (fun j => sB (shDB su j)) ca) (by omega) (by omega)
    rw [zrow_glue (fun j hj => by rw [shDB_w hj])] at e
    simp (disch := omega) only [b_X7_end_97, zle1, if_neg, zM, nI_add, zCl, zki, zA, e, zbE]
    rfl
theorem shLastW {b sc : Nat → Int32} {n k : Nat} (hk : shL n = 64 * (k + 1)) (hn : n < 64 * k + 56) (hn2 : n < 2 ^ 28) (h : ∀ i, i < 16 → sc i = shW4 (fun t => shPz b n (64 * k + t)) i) : ∀ i, i < 16 → upd sc 15 (nI (8 * n)) i = shW4 (fun t => shPad b n (64 * k + t)) i := by
  intro i hi
  rcases (show i < 14 ∨ i = 14 ∨ i = 15 by omega) with hc | rfl | rfl
  · rw [upd_n _ _ (by omega), h i hi]
    exact shW4_congr (fun t ht => (shPad_z (by omega)).symm)
  · rw [upd_n _ _ (by omega), h 14 hi, shW4_0 (m := fun t => shPz b n (64 * k + t)) (i := 14) (fun t ht => shPz_hi (by omega))]
    refine (shW4_0 (m := fun t => shPad b n (64 * k + t)) (i := 14) (fun t ht => ?_)).symm
    show shPad b n (64 * k + (4 * 14 + t)) = 0
    rw [shPad_l (by omega), hk]
    rcases (show t = 0 ∨ t = 1 ∨ t = 2 ∨ t = 3 by omega) with rfl | rfl | rfl | rfl
    · rw [show 64 * (k + 1) - 1 - (64 * k + (4 * 14 + 0)) = 7 by omega, Nat.div_eq_of_lt (by omega)]; rfl
    · rw [show 64 * (k + 1) - 1 - (64 * k + (4 * 14 + 1)) = 6 by omega, Nat.div_eq_of_lt (by omega)]; rfl
    · rw [show 64 * (k + 1) - 1 - (64 * k + (4 * 14 + 2)) = 5 by omega, Nat.div_eq_of_lt (by omega)]; rfl
    · rw [show 64 * (k + 1) - 1 - (64 * k + (4 * 14 + 3)) = 4 by omega, Nat.div_eq_of_lt (by omega)]; rfl
  · rw [upd_s]
    unfold shW4
    show _ = (((shPad b n (64 * k + 4 * 15) <<< ((24 : Int32) &&& 31)) ||| (shPad b n (64 * k + (4 * 15 + 1)) <<< ((16 : Int32) &&& 31))) ||| (shPad b n (64 * k + (4 * 15 + 2)) <<< ((8 : Int32) &&& 31))) ||| shPad b n (64 * k + (4 * 15 + 3))
    rw [shPad_l (t := 64 * k + 4 * 15) (by omega), shPad_l (t := 64 * k + (4 * 15 + 1)) (by omega), shPad_l (t := 64 * k + (4 * 15 + 2)) (by omega), shPad_l (t := 64 * k + (4 * 15 + 3)) (by omega), hk, show 64 * (k + 1) - 1 - (64 * k + 4 * 15) = 3 by omega, show 64 * (k + 1) - 1 - (64 * k + (4 * 15 + 1)) = 2 by omega, show 64 * (k + 1) - 1 - (64 * k + (4 * 15 + 2)) = 1 by omega, show 64 * (k + 1) - 1 - (64 * k + (4 * 15 + 3)) = 0 by omega]
    exact nI_W
set_option maxHeartbeats 4000000 in
theorem p_X7_end {N a n : Nat} {b : Nat → Int32} {fl : Int32} {sc su : Nat → Int32} (ca : Nat → Int32) (hS : shCS b n fl sc su) (hn : n < 2 ^ 28) (hN : a + 32 ≤ N) (hN2 : N ≤ 1500) :
    ∃ sc' su', f_X7_end N (nI a) fl (nI n) sc su ca = some (0, sc', su', zrow a 32 (fun j => sB (shD b n j)) ca) := by
  have hfl : fl = nI (n % 64) := hS.1
  have hx : fl >>> ((2 : Int32) &&& 31) = nI (n % 64 / 4) := by rw [hfl]; exact shr2 (by omega)
  have h3 : fl &&& 3 = nI (n % 64 % 4) := by rw [hfl]; exact pk_andN (by omega) 2 (by decide)
  have hE := shEndW hS
  obtain ⟨sc2, hsc2⟩ : ∃ q, q = zrow (n % 64 / 4 + 1) (16 - (n % 64 / 4 + 1)) (fun _ => 0) (upd sc (n % 64 / 4) (((sc (n % 64 / 4) <<< ((8 : Int32) &&& 31)) ||| 128) <<< (nI (24 - 8 * (n % 64 % 4)) &&& 31))) := ⟨_, rfl⟩
  rw [← hsc2] at hE
  have hf : f_J7_fill_fda19 64 (nI (n % 64 / 4 + 1)) 16 0 (upd sc (n % 64 / 4) (((sc (n % 64 / 4) <<< ((8 : Int32) &&& 31)) ||| 128) <<< (nI (24 - 8 * (n % 64 % 4)) &&& 31))) = some sc2 := by
    rw [hsc2]
    exact p_J7_fillI (N := 64) (a := n % 64 / 4 + 1) (e := 16) 0 _ (by omega) (by omega) (by omega)
  have hf2 : ∀ c, f_J7_fill_fda19 64 0 16 0 c = some (zrow 0 16 (fun _ => 0) c) := fun c => p_J7_fillI (N := 64) (a := 0) (e := 16) 0 c (by omega) (by omega) (by omega)
  have fin : ∀ s5 su1 k, shL n = 64 * (k + 1) → (∀ i, i < 16 → s5 i = shW4 (fun t => shPad b n (64 * k + t)) i) → (∀ j, j < 8 → su1 j = shN (shPad b n) k j) → zrow a 32 (fun j => sB (shDB (shA su1 (shZ (shE s5) su1)) j)) ca = zrow a 32 (fun j => sB (shD b n j)) ca := by
    intro s5 su1 k hk h5 h1
    refine zrow_congr (fun j hj => ?_)
    unfold shD
    rw [shDB_congr (k := shN (shPad b n) ((n + 8) / 64 + 1)) (fun q hq => ?_) hj]
    rw [show (n + 8) / 64 + 1 = k + 1 by unfold shL at hk; omega]
    exact shC_congr (m := s5) (h := su1) h5 h1 q hq
  unfold f_X7_end
  simp (disch := omega) only [znE, hx, h3, zCl, zki, zA, zM, zS2, hf, zbE]
  rw [zjE]
  by_cases hc : n % 64 < 56
  · have hk : shL n = 64 * (n / 64 + 1) := by unfold shL; omega
    rw [if_pos (by rw [hfl]; exact nI_lt (b := 56) hc (by omega))]
    simp (disch := omega) only [zClk, zkk, p_X7_compress, zbE]
    rw [zjE, p_X7_end_out _ _ _ hN hN2]
    exact ⟨_, _, congrArg (fun q => some ((0 : Int32), shE (upd sc2 15 (nI (8 * n))), shA su (shZ (shE (upd sc2 15 (nI (8 * n)))) su), q)) (fin (upd sc2 15 (nI (8 * n))) su (n / 64) hk (shLastW hk (by omega) hn hE) (fun j hj => (hS.2.1 j hj).trans (shN_congr (n / 64) (fun t ht => by rw [shPad_z (by omega), shPz_lo (by omega)]) j hj)))⟩
  · have hk : shL n = 64 * (n / 64 + 1 + 1) := by unfold shL; omega
    rw [if_neg (by rw [hfl]; exact nI_nlt (b := 56) (by omega) (by omega))]
    simp (disch := omega) only [zClk, zkk, p_X7_compress, zbE, hf2]
    rw [zjE, p_X7_end_out _ _ _ hN hN2]
    have h6 : ∀ i, i < 16 → upd (zrow 0 16 (fun _ => 0) (shE sc2)) 15 (nI (8 * n)) i = shW4 (fun t => shPad b n (64 * (n / 64 + 1) + t)) i := by
      refine shLastW hk (by omega) hn (fun i hi => ?_)
      rw [zrow_0 hi]
      exact (shW4_0 (m := fun t => shPz b n (64 * (n / 64 + 1) + t)) (i := i) (fun t ht => shPz_hi (by omega))).symm
    have h7 : ∀ j, j < 8 → shA su (shZ (shE sc2) su) j = shN (shPad b n) (n / 64 + 1) j :=
      shC_congr (m := sc2) (h := su) (fun i hi => (hE i hi).trans (shW4_congr (fun t ht => (shPad_z (by omega)).symm))) (fun j hj => (hS.2.1 j hj).trans (shN_congr (n / 64) (fun t ht => by rw [shPad_z (by omega), shPz_lo (by omega)]) j hj))
    exact ⟨_, _, congrArg (fun q => some ((0 : Int32), shE (upd (zrow 0 16 (fun _ => 0) (shE sc2)) 15 (nI (8 * n))), shA (shA su (shZ (shE sc2) su)) (shZ (shE (upd (zrow 0 16 (fun _ => 0) (shE sc2)) 15 (nI (8 * n)))) (shA su (shZ (shE sc2) su))), q)) (fin _ _ (n / 64 + 1) hk h6 h7)⟩
