/-! AES: a block, sealed -/
def isU8 (s : Nat → Int32) (n : Nat) : Prop := ∀ i, i < n → s i &&& 255 = s i
def sbx (x : Int32) : Int32 := tb_BOX.getD x.toNatClampNeg 0
def sbk (x : Int32) : Int32 := tb_BOX_BACK.getD x.toNatClampNeg 0
theorem sbx_u0 : ∀ k, k < 256 → tb_BOX.getD k 0 &&& 255 = tb_BOX.getD k 0 := by decide +kernel
theorem sbk_u0 : ∀ k, k < 256 → tb_BOX_BACK.getD k 0 &&& 255 = tb_BOX_BACK.getD k 0 := by decide +kernel
theorem sbx_u {x : Int32} (h : x &&& 255 = x) : sbx x &&& 255 = sbx x := by
  obtain ⟨k, hk, rfl⟩ := uNat h
  unfold sbx
  rw [nI_clamp (by omega)]
  exact sbx_u0 k hk
theorem sbk_u {x : Int32} (h : x &&& 255 = x) : sbk x &&& 255 = sbk x := by
  obtain ⟨k, hk, rfl⟩ := uNat h
  unfold sbk
  rw [nI_clamp (by omega)]
  exact sbk_u0 k hk
theorem uIn {x : Int32} (h : x &&& 255 = x) : ¬ (x < 0 ∨ 256 ≤ x.toNatClampNeg) := by
  obtain ⟨k, hk, rfl⟩ := uNat h
  exact nI_in hk (by omega)
theorem p_X0_boxed {a0 a1 a2 a3 b0 b1 b2 b3 c0 c1 c2 c3 d0 d1 d2 d3 : Int32} (ha0 : a0 &&& 255 = a0) (ha1 : a1 &&& 255 = a1) (ha2 : a2 &&& 255 = a2) (ha3 : a3 &&& 255 = a3) (hb1 : b1 &&& 255 = b1) (hb2 : b2 &&& 255 = b2) (hb3 : b3 &&& 255 = b3) (hc1 : c1 &&& 255 = c1) (hc2 : c2 &&& 255 = c2) (hc3 : c3 &&& 255 = c3) (hd1 : d1 &&& 255 = d1) (hd2 : d2 &&& 255 = d2) (hd3 : d3 &&& 255 = d3) :
    f_X0_boxed (zW a0 a1 a2 a3) (zW b0 b1 b2 b3) (zW c0 c1 c2 c3) (zW d0 d1 d2 d3) = some (zW (sbx a0) (sbx b1) (sbx c2) (sbx d3)) := by
  unfold f_X0_boxed
  rw [zW_b0 ha0 ha1 ha2 ha3, zW_b1 hb1 hb2 hb3, zW_b2 hc1 hc2 hc3, zW_b3 hd1 hd2 hd3, zk_T (uIn ha0), zk_T (uIn hb1), zk_T (uIn hc2), zk_T (uIn hd3)]
  rfl
theorem p_X0_unboxed {a0 a1 a2 a3 b0 b1 b2 b3 c0 c1 c2 c3 d0 d1 d2 d3 : Int32} (ha0 : a0 &&& 255 = a0) (ha1 : a1 &&& 255 = a1) (ha2 : a2 &&& 255 = a2) (ha3 : a3 &&& 255 = a3) (hb1 : b1 &&& 255 = b1) (hb2 : b2 &&& 255 = b2) (hb3 : b3 &&& 255 = b3) (hc1 : c1 &&& 255 = c1) (hc2 : c2 &&& 255 = c2) (hc3 : c3 &&& 255 = c3) (hd1 : d1 &&& 255 = d1) (hd2 : d2 &&& 255 = d2) (hd3 : d3 &&& 255 = d3) :
    f_X0_unboxed (zW a0 a1 a2 a3) (zW b0 b1 b2 b3) (zW c0 c1 c2 c3) (zW d0 d1 d2 d3) = some (zW (sbk a0) (sbk b1) (sbk c2) (sbk d3)) := by
  unfold f_X0_unboxed
  rw [zW_b0 ha0 ha1 ha2 ha3, zW_b1 hb1 hb2 hb3, zW_b2 hc1 hc2 hc3, zW_b3 hd1 hd2 hd3, zk_T (uIn ha0), zk_T (uIn hb1), zk_T (uIn hc2), zk_T (uIn hd3)]
  rfl
/-- the steps of a round, over sixteen bytes -/
def ark (s k : Nat → Int32) (r : Nat) : Nat → Int32 := fun i => s i ^^^ k (16 * r + i)
def asub (s : Nat → Int32) : Nat → Int32 := fun i => sbx (s ((i + 4 * (i % 4)) % 16))
def asbk (s : Nat → Int32) : Nat → Int32 := fun i => sbk (s ((i + 12 * (i % 4)) % 16))
def amix (s : Nat → Int32) : Nat → Int32 := fun i => mx (s i) (s (i - i % 4 + (i + 1) % 4)) (s (i - i % 4 + (i + 2) % 4)) (s (i - i % 4 + (i + 3) % 4))
def aumx (s : Nat → Int32) : Nat → Int32 := fun i => umx (s i) (s (i - i % 4 + (i + 1) % 4)) (s (i - i % 4 + (i + 2) % 4)) (s (i - i % 4 + (i + 3) % 4))
def aesS (k s : Nat → Int32) : Nat → (Nat → Int32)
  | 0 => ark s k 0
  | r + 1 => ark (amix (asub (aesS k s r))) k (r + 1)
def aesE (k : Nat → Int32) (R : Nat) (s : Nat → Int32) : Nat → Int32 := ark (asub (aesS k s (R - 1))) k R
def aesT (k : Nat → Int32) (R : Nat) (s : Nat → Int32) : Nat → (Nat → Int32)
  | 0 => ark s k R
  | j + 1 => aumx (ark (asbk (aesT k R s j)) k (R - 1 - j))
def aesD (k : Nat → Int32) (R : Nat) (s : Nat → Int32) : Nat → Int32 := ark (asbk (aesT k R s (R - 1))) k 0
theorem ark_u {s k : Nat → Int32} {r : Nat} (hs : isU8 s 16) (hk : isU8 k (16 * (r + 1))) : isU8 (ark s k r) 16 := fun i hi => xorU (hs i hi) (hk _ (by omega))
theorem asub_u {s : Nat → Int32} (hs : isU8 s 16) : isU8 (asub s) 16 := fun i hi => sbx_u (hs _ (by omega))
theorem asbk_u {s : Nat → Int32} (hs : isU8 s 16) : isU8 (asbk s) 16 := fun i hi => sbk_u (hs _ (by omega))
theorem amix_u {s : Nat → Int32} (hs : isU8 s 16) : isU8 (amix s) 16 := fun i hi => mx_u (hs _ hi) (hs _ (by omega)) (hs _ (by omega)) (hs _ (by omega))
theorem umx_u {x y z w : Int32} (hx : x &&& 255 = x) (hy : y &&& 255 = y) (hz : z &&& 255 = z) (hw : w &&& 255 = w) : umx x y z w &&& 255 = umx x y z w := xorU (xorU (xorU (gml_u hx).1 (gml_u hy).2.1) (gml_u hz).2.2.1) (gml_u hw).2.2.2
theorem aumx_u {s : Nat → Int32} (hs : isU8 s 16) : isU8 (aumx s) 16 := fun i hi => umx_u (hs _ hi) (hs _ (by omega)) (hs _ (by omega)) (hs _ (by omega))
theorem aesS_u {k s : Nat → Int32} (hs : isU8 s 16) : ∀ r, isU8 k (16 * (r + 1)) → isU8 (aesS k s r) 16
  | 0, hk => ark_u hs hk
  | r + 1, hk => ark_u (amix_u (asub_u (aesS_u hs r (fun i hi => hk i (by omega))))) hk
theorem aesE_u {k s : Nat → Int32} {R : Nat} (hs : isU8 s 16) (hR : 1 ≤ R) (hk : isU8 k (16 * (R + 1))) : isU8 (aesE k R s) 16 :=
  ark_u (asub_u (aesS_u hs _ (fun i hi => hk i (by omega)))) hk
theorem aesT_u {k s : Nat → Int32} {R : Nat} (hs : isU8 s 16) (hk : isU8 k (16 * (R + 1))) : ∀ j, isU8 (aesT k R s j) 16
  | 0 => ark_u hs hk
  | j + 1 => aumx_u (ark_u (asbk_u (aesT_u hs hk j)) (fun i hi => hk i (by omega)))
theorem aesD_u {k s : Nat → Int32} {R : Nat} (hs : isU8 s 16) (hk : isU8 k (16 * (R + 1))) : isU8 (aesD k R s) 16 :=
  ark_u (asbk_u (aesT_u hs hk _)) (fun i hi => hk i (by omega))
/-- only sixteen bytes count -/
def eq16 (s t : Nat → Int32) : Prop := ∀ i, i < 16 → s i = t i
theorem ark_c {s t k l : Nat → Int32} {r : Nat} (h : eq16 s t) (hk : ∀ i, i < 16 * (r + 1) → k i = l i) : eq16 (ark s k r) (ark t l r) := fun i hi => by
  unfold ark
  rw [h i hi, hk _ (by omega)]
theorem asub_c {s t : Nat → Int32} (h : eq16 s t) : eq16 (asub s) (asub t) := fun i hi => by
  unfold asub
  rw [h _ (by omega)]
theorem asbk_c {s t : Nat → Int32} (h : eq16 s t) : eq16 (asbk s) (asbk t) := fun i hi => by
  unfold asbk
  rw [h _ (by omega)]
theorem amix_c {s t : Nat → Int32} (h : eq16 s t) : eq16 (amix s) (amix t) := fun i hi => by
  unfold amix
  rw [h i hi, h (i - i % 4 + (i + 1) % 4) (by omega), h (i - i % 4 + (i + 2) % 4) (by omega), h (i - i % 4 + (i + 3) % 4) (by omega)]
theorem aumx_c {s t : Nat → Int32} (h : eq16 s t) : eq16 (aumx s) (aumx t) := fun i hi => by
  unfold aumx
  rw [h i hi, h (i - i % 4 + (i + 1) % 4) (by omega), h (i - i % 4 + (i + 2) % 4) (by omega), h (i - i % 4 + (i + 3) % 4) (by omega)]
theorem aesS_c {s t k l : Nat → Int32} (h : eq16 s t) : ∀ r, (∀ i, i < 16 * (r + 1) → k i = l i) → eq16 (aesS k s r) (aesS l t r)
  | 0, hk => ark_c h hk
  | r + 1, hk => ark_c (amix_c (asub_c (aesS_c h r (fun i hi => hk i (by omega))))) hk
theorem aesE_c {s t k l : Nat → Int32} {R : Nat} (h : eq16 s t) (hR : 1 ≤ R) (hk : ∀ i, i < 16 * (R + 1) → k i = l i) : eq16 (aesE k R s) (aesE l R t) :=
  ark_c (asub_c (aesS_c h _ (fun i hi => hk i (by omega)))) hk
theorem aesT_c {s t k l : Nat → Int32} {R : Nat} (h : eq16 s t) (hk : ∀ i, i < 16 * (R + 1) → k i = l i) : ∀ j, eq16 (aesT k R s j) (aesT l R t j)
  | 0 => ark_c h hk
  | j + 1 => aumx_c (ark_c (asbk_c (aesT_c h hk j)) (fun i hi => hk i (by omega)))
theorem aesD_c {s t k l : Nat → Int32} {R : Nat} (h : eq16 s t) (hk : ∀ i, i < 16 * (R + 1) → k i = l i) : eq16 (aesD k R s) (aesD l R t) :=
  ark_c (asbk_c (aesT_c h hk _)) (fun i hi => hk i (by omega))
/-- a class' keys, byte by byte -/
def kB (keys : Nat → Int32) : Nat → Int32 := fun i => wB (keys (i / 4)) (i % 4)
theorem wB_u (v : Int32) (j : Nat) : wB v j &&& 255 = wB v j := and255 _
theorem kB_u (keys : Nat → Int32) (n : Nat) : isU8 (kB keys) n := fun i _ => wB_u _ _
theorem kBu (keys : Nat → Int32) (t : Nat) : kB keys t &&& 255 = kB keys t := wB_u _ _
theorem zW_wB (v : Int32) : zW (wB v 0) (wB v 1) (wB v 2) (wB v 3) = v := by
  refine (zW_ext (wB_u _ _) (wB_u _ _) (wB_u _ _) (fun i hi => ?_) (fun i hi => ?_) (fun i hi => ?_) (fun i hi => ?_)).symm
  · unfold wB
    rw [b_and, b_255, b_sshr _ (by omega) _ (by omega), decide_eq_true hi, Bool.and_true, if_pos (by omega), show 24 - 8 * 3 + i = i by omega]
  · unfold wB
    rw [b_and, b_255, b_sshr _ (by omega) _ (by omega), decide_eq_true hi, Bool.and_true, if_pos (by omega), show 24 - 8 * 2 + i = i + 8 by omega]
  · unfold wB
    rw [b_and, b_255, b_sshr _ (by omega) _ (by omega), decide_eq_true hi, Bool.and_true, if_pos (by omega), show 24 - 8 * 1 + i = i + 16 by omega]
  · unfold wB
    rw [b_and, b_255, b_sshr _ (by omega) _ (by omega), decide_eq_true hi, Bool.and_true, if_pos (by omega), show 24 - 8 * 0 + i = i + 24 by omega]
theorem kB_W (keys : Nat → Int32) (w : Nat) : keys w = zW (kB keys (4 * w)) (kB keys (4 * w + 1)) (kB keys (4 * w + 2)) (kB keys (4 * w + 3)) := by
  unfold kB
  rw [show 4 * w / 4 = w by omega, show (4 * w + 1) / 4 = w by omega, show (4 * w + 2) / 4 = w by omega, show (4 * w + 3) / 4 = w by omega, show 4 * w % 4 = 0 by omega, show (4 * w + 1) % 4 = 1 by omega, show (4 * w + 2) % 4 = 2 by omega, show (4 * w + 3) % 4 = 3 by omega, zW_wB]
