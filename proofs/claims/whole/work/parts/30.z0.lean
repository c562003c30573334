/-! the model's tables, as its constructor makes them -/
def eM {α : Type} (y : Int32) (K : Int32 → α) : Nat → Nat → Int32 × Int32 → α
  | 0, _, s => K s.1
  | m + 1, i, s => fI (gs y i s).1 (fun a => fI (gs y i s).2 (fun x => fN (fun i' => eM y K m i' (a, x)) (i + 1)))
theorem eM_eq {α : Type} (y : Int32) (K : Int32 → α) : ∀ m i s, eM y K m i s = K (zit (gs y) i m s).1
  | 0, _, _ => rfl
  | m + 1, i, s => by
    show fI (gs y i s).1 (fun a => fI (gs y i s).2 (fun x => fN (fun i' => eM y K m i' (a, x)) (i + 1))) = _
    rw [fI_eq, fI_eq, fN_eq]
    exact eM_eq y K m _ _
def eQ (i : Nat) (K : Bool) : Nat → Nat → Bool
  | 0, _ => K
  | m + 1, z => eM (nI z) (fun r => if r = 1 then false else fN (fun z' => eQ i K m z') (z + 1)) 8 0 (0, nI i)
theorem eQ_eq {i : Nat} {K : Bool} : ∀ m z, eQ i K m z = true → K = true ∧ ∀ q, z ≤ q → q < z + m → ¬ gml (nI i) (nI q) = 1
  | 0, z, h => ⟨h, fun q h1 h2 => by omega⟩
  | m + 1, z, h => by
    have h' : eM (nI z) (fun r => if r = 1 then false else fN (fun z' => eQ i K m z') (z + 1)) 8 0 (0, nI i) = true := h
    rw [eM_eq] at h'
    have e : (zit (gs (nI z)) 0 8 (0, nI i)).1 = gml (nI i) (nI z) := rfl
    rw [e] at h'
    by_cases q1 : gml (nI i) (nI z) = 1
    · rw [if_pos q1] at h'
      exact absurd h' (by decide)
    · rw [if_neg q1, fN_eq] at h'
      obtain ⟨k1, k2⟩ := eQ_eq m (z + 1) h'
      refine ⟨k1, fun q h1 h2 => ?_⟩
      by_cases e2 : q = z
      · rw [e2]; exact q1
      · exact k2 q (by omega) (by omega)
def invT : List Nat := [0, 1, 141, 246, 203, 82, 123, 209, 232, 79, 41, 192, 176, 225, 229, 199, 116, 180, 170, 75, 153, 43, 96, 95, 88, 63, 253, 204, 255, 64, 238, 178, 58, 110, 90, 241, 85, 77, 168, 201, 193, 10, 152, 21, 48, 68, 162, 194, 44, 69, 146, 108, 243, 57, 102, 66, 242, 53, 32, 111, 119, 187, 89, 25, 29, 254, 55, 103, 45, 49, 245, 105, 167, 100, 171, 19, 84, 37, 233, 9, 237, 92, 5, 202, 76, 36, 135, 191, 24, 62, 34, 240, 81, 236, 97, 23, 22, 94, 175, 211, 73, 166, 54, 67, 244, 71, 145, 223, 51, 147, 33, 59, 121, 183, 151, 133, 16, 181, 186, 60, 182, 112, 208, 6, 161, 250, 129, 130, 131, 126, 127, 128, 150, 115, 190, 86, 155, 158, 149, 217, 247, 2, 185, 164, 222, 106, 50, 109, 216, 138, 132, 114, 42, 20, 159, 136, 249, 220, 137, 154, 251, 124, 46, 195, 143, 184, 101, 72, 38, 200, 18, 74, 206, 231, 210, 98, 12, 224, 31, 239, 17, 117, 120, 113, 165, 142, 118, 61, 189, 188, 134, 87, 11, 40, 47, 163, 218, 212, 228, 15, 169, 39, 83, 4, 27, 252, 172, 230, 122, 7, 174, 99, 197, 219, 226, 234, 148, 139, 196, 213, 157, 248, 144, 107, 177, 13, 214, 235, 198, 14, 207, 173, 8, 78, 215, 227, 93, 80, 30, 179, 91, 35, 56, 52, 104, 70, 3, 140, 221, 156, 125, 160, 205, 26, 65, 28]
def inN (i : Nat) : Nat := invT.getD i 0
def eV (i : Nat) : Bool := fN (fun w => if w = 0 then eQ i true 255 1 else eQ i (eM (nI w) (fun r => decide (r = 1)) 8 0 (0, nI i)) (w - 1) 1) (inN i)
def eVs : Nat → Nat → Bool
  | 0, _ => true
  | m + 1, i => if eV i = true then fN (fun i' => eVs m i') (i + 1) else false
theorem eVs_eq : ∀ m i, eVs m i = true → ∀ q, i ≤ q → q < i + m → eV q = true
  | 0, i, _ => fun q h1 h2 => by omega
  | m + 1, i, h => by
    have h' : (if eV i = true then fN (fun i' => eVs m i') (i + 1) else false) = true := h
    by_cases q1 : eV i = true
    · rw [if_pos q1, fN_eq] at h'
      intro q h1 h2
      by_cases e : q = i
      · rw [e]; exact q1
      · exact eVs_eq m (i + 1) h' q (by omega) (by omega)
    · rw [if_neg q1] at h'
      exact absurd h' (by decide)
theorem eV_0 : eVs 32 0 = true := (by decide +kernel)
theorem eV_1 : eVs 32 32 = true := (by decide +kernel)
theorem eV_2 : eVs 32 64 = true := (by decide +kernel)
theorem eV_3 : eVs 32 96 = true := (by decide +kernel)
theorem eV_4 : eVs 32 128 = true := (by decide +kernel)
theorem eV_5 : eVs 32 160 = true := (by decide +kernel)
theorem eV_6 : eVs 32 192 = true := (by decide +kernel)
theorem eV_7 : eVs 32 224 = true := (by decide +kernel)
theorem eV_all {i : Nat} (h : i < 256) : eV i = true := by
  have hc : i < 32 ∨ (32 ≤ i ∧ i < 64) ∨ (64 ≤ i ∧ i < 96) ∨ (96 ≤ i ∧ i < 128) ∨ (128 ≤ i ∧ i < 160) ∨ (160 ≤ i ∧ i < 192) ∨ (192 ≤ i ∧ i < 224) ∨ (224 ≤ i ∧ i < 256) := by omega
  rcases hc with q | q | q | q | q | q | q | q
  · exact eVs_eq 32 0 eV_0 i (by omega) (by omega)
  · exact eVs_eq 32 32 eV_1 i (by omega) (by omega)
  · exact eVs_eq 32 64 eV_2 i (by omega) (by omega)
  · exact eVs_eq 32 96 eV_3 i (by omega) (by omega)
  · exact eVs_eq 32 128 eV_4 i (by omega) (by omega)
  · exact eVs_eq 32 160 eV_5 i (by omega) (by omega)
  · exact eVs_eq 32 192 eV_6 i (by omega) (by omega)
  · exact eVs_eq 32 224 eV_7 i (by omega) (by omega)
theorem inN_lt : ∀ i, i < 256 → inN i < 256 := by decide +kernel
theorem p_X10_inverse {i : Nat} (h : i < 256) : f_X10_inverse (nI i) = some (nI (inN i)) := by
  have hv := eV_all h
  unfold eV at hv
  rw [fN_eq] at hv
  have hl := inN_lt i h
  unfold f_X10_inverse
  rw [zjE]
  by_cases h0 : inN i = 0
  · rw [if_pos h0] at hv
    obtain ⟨-, k2⟩ := eQ_eq 255 1 hv
    rw [h0]
    refine zl_up (F := b_X10_inverse_2 (nI i) _) (fun z (_ : Unit) => nI z) (fun _ _ => True) 1 256 () (fun o => o = some (nI 0)) (by omega) (by omega) trivial ?_ ?_
    · intro self _ _
      simp only [b_X10_inverse_2]
      rw [if_pos (by decide)]
      rfl
    · intro self z _ h1 hz _
      simp only [b_X10_inverse_2]
      rw [if_neg (show ¬ (256 : Int32) ≤ nI z from nI_ge (b := 256) hz (by omega)), p_X10_times, zbE, if_neg (k2 z h1 (by omega)), zA]
      exact ⟨(), trivial, rfl⟩
  · rw [if_neg h0] at hv
    obtain ⟨k1, k2⟩ := eQ_eq _ 1 hv
    rw [eM_eq] at k1
    have k1' : gml (nI i) (nI (inN i)) = 1 := of_decide_eq_true k1
    refine zl_up (F := b_X10_inverse_2 (nI i) _) (fun z (_ : Unit) => nI z) (fun _ _ => True) 1 (inN i) () (fun o => o = some (nI (inN i))) (by omega) (by omega) trivial ?_ ?_
    · intro self _ _
      simp only [b_X10_inverse_2]
      rw [if_neg (show ¬ (256 : Int32) ≤ nI (inN i) from nI_ge (b := 256) hl (by omega)), p_X10_times, zbE, if_pos k1']
    · intro self z _ h1 hz _
      simp only [b_X10_inverse_2]
      rw [if_neg (show ¬ (256 : Int32) ≤ nI z from nI_ge (b := 256) (by omega) (by omega)), p_X10_times, zbE, if_neg (k2 z h1 (by omega)), zA]
      exact ⟨(), trivial, rfl⟩
