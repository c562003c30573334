noncomputable def f_J7_rangeCheck_23922 (p0 : Int32) (p1 : Int32) (p2 : Int32) : Option (Unit) :=
  if p1 ≤ p2 then if 0 ≤ p1 then if p2 ≤ p0 then some () else none else none else none
noncomputable def b_J7_fill_53178_5 (n_a0 : Nat) (p1 : Int32) (x_1 : Int32) (K_5 : (Nat → Int32) → Option ((Nat → Int32))) (self_6 : (Int32 × (Nat → Int32)) → Option ((Nat → Int32))) (z : Int32 × (Nat → Int32)) : Option ((Nat → Int32)) :=
  match z with
  | (i_2, ca0_3) => if x_1 ≤ i_2 then K_5 ca0_3 else zk (¬ (i_2 < 0 ∨ n_a0 ≤ i_2.toNatClampNeg)) (zn ((upd ca0_3 i_2.toNatClampNeg p1) : Nat → Int32) (fun ca0_9 => self_6 ((i_2 + (1 : Int32)), ca0_9)))
noncomputable def f_J7_fill_53178 (n_a0 : Nat) (p1 : Int32) (ca0 : Nat → Int32) : Option ((Nat → Int32)) :=
  zn ((Int32.ofNat n_a0) : Int32) (fun x_1 => zj (fun (ca0_4 : Nat → Int32) => some ca0_4) (fun K_5 => zl (b_J7_fill_53178_5 n_a0 p1 x_1 K_5) zF ((0 : Int32), ca0)))
noncomputable def b_J7_fill_fda19_10 (n_a0 : Nat) (p2 : Int32) (p3 : Int32) (K_4 : (Nat → Int32) → Option ((Nat → Int32))) (self_5 : (Int32 × (Nat → Int32)) → Option ((Nat → Int32))) (z : Int32 × (Nat → Int32)) : Option ((Nat → Int32)) :=
  match z with
  | (i_1, ca0_2) => if p2 ≤ i_1 then K_4 ca0_2 else zk (¬ (i_1 < 0 ∨ n_a0 ≤ i_1.toNatClampNeg)) (zn ((upd ca0_2 i_1.toNatClampNeg p3) : Nat → Int32) (fun ca0_8 => self_5 ((i_1 + (1 : Int32)), ca0_8)))
noncomputable def f_J7_fill_fda19 (n_a0 : Nat) (p1 : Int32) (p2 : Int32) (p3 : Int32) (ca0 : Nat → Int32) : Option ((Nat → Int32)) :=
  (f_J7_rangeCheck_23922 (Int32.ofNat n_a0) p1 p2).bind (fun (_ : Unit) => zj (fun (ca0_3 : Nat → Int32) => some ca0_3) (fun K_4 => zl (b_J7_fill_fda19_10 n_a0 p2 p3 K_4) zF (p1, ca0)))
noncomputable def b_J7_fill_031fb_5 (n_a0 : Nat) (p1 : Int32) (x_1 : Int32) (K_5 : (Nat → Int32) → Option ((Nat → Int32))) (self_6 : (Int32 × (Nat → Int32)) → Option ((Nat → Int32))) (z : Int32 × (Nat → Int32)) : Option ((Nat → Int32)) :=
  match z with
  | (i_2, ca0_3) => if x_1 ≤ i_2 then K_5 ca0_3 else zk (¬ (i_2 < 0 ∨ n_a0 ≤ i_2.toNatClampNeg)) (zn ((upd ca0_3 i_2.toNatClampNeg (vp_nar .byte p1)) : Nat → Int32) (fun ca0_9 => self_6 ((i_2 + (1 : Int32)), ca0_9)))
noncomputable def f_J7_fill_031fb (n_a0 : Nat) (p1 : Int32) (ca0 : Nat → Int32) : Option ((Nat → Int32)) :=
  zn ((Int32.ofNat n_a0) : Int32) (fun x_1 => zj (fun (ca0_4 : Nat → Int32) => some ca0_4) (fun K_5 => zl (b_J7_fill_031fb_5 n_a0 p1 x_1 K_5) zF ((0 : Int32), ca0)))
noncomputable def b_J7_fill_eb02e_10 (n_a0 : Nat) (p2 : Int32) (p3 : Int32) (K_4 : (Nat → Int32) → Option ((Nat → Int32))) (self_5 : (Int32 × (Nat → Int32)) → Option ((Nat → Int32))) (z : Int32 × (Nat → Int32)) : Option ((Nat → Int32)) :=
  match z with
  | (i_1, ca0_2) => if p2 ≤ i_1 then K_4 ca0_2 else zk (¬ (i_1 < 0 ∨ n_a0 ≤ i_1.toNatClampNeg)) (zn ((upd ca0_2 i_1.toNatClampNeg (vp_nar .byte p3)) : Nat → Int32) (fun ca0_8 => self_5 ((i_1 + (1 : Int32)), ca0_8)))
noncomputable def f_J7_fill_eb02e (n_a0 : Nat) (p1 : Int32) (p2 : Int32) (p3 : Int32) (ca0 : Nat → Int32) : Option ((Nat → Int32)) :=
  (f_J7_rangeCheck_23922 (Int32.ofNat n_a0) p1 p2).bind (fun (_ : Unit) => zj (fun (ca0_3 : Nat → Int32) => some ca0_3) (fun K_4 => zl (b_J7_fill_eb02e_10 n_a0 p2 p3 K_4) zF (p1, ca0)))
noncomputable def f_X9_isKind (p0 : Int32) : Option (Int32) :=
  if p0 = (1 : Int32) then some (1 : Int32) else if p0 = (2 : Int32) then some (1 : Int32) else some (0 : Int32)
noncomputable def f_X9_isKeyLength (p0 : Int32) : Option (Int32) :=
  if p0 < (1 : Int32) then some (0 : Int32) else if (64 : Int32) < p0 then some (0 : Int32) else some (1 : Int32)
noncomputable def f_X9_lengthFits (p0 : Int32) (p1 : Int32) : Option (Int32) :=
  if p0 = (1 : Int32) then if p1 = (16 : Int32) then some (1 : Int32) else if p1 = (32 : Int32) then some (1 : Int32) else some (0 : Int32) else (f_X9_isKeyLength p1).bind (fun r_3 => zk (vp_nar .boolean r_3 = r_3) (some r_3))
noncomputable def f_X9_isUsage (p0 : Int32) : Option (Int32) :=
  if p0 < 0 then some (0 : Int32) else if (63 : Int32) < p0 then some (0 : Int32) else some (1 : Int32)
noncomputable def f_X9_isRole (p0 : Int32) : Option (Int32) :=
  if p0 = (1 : Int32) then some (1 : Int32) else if p0 = (2 : Int32) then some (1 : Int32) else some (0 : Int32)
noncomputable def b_X9_isWrappedHead_5 (n_a0 : Nat) (ca0 : Nat → Int32) (K_4 : Int32 → Option Int32) (self_21 : (Int32 × Int32) → Option Int32) (z : Int32 × Int32) : Option Int32 :=
  match z with
  | (i_1, i_2) => if (16 : Int32) ≤ i_2 then K_4 i_1 else if i_1 = 0 then self_21 ((0 : Int32), (i_2 + (1 : Int32))) else zk (¬ (i_2 < 0 ∨ n_a0 ≤ i_2.toNatClampNeg)) (if (ca0 i_2.toNatClampNeg) = 0 then self_21 ((1 : Int32), (i_2 + (1 : Int32))) else self_21 ((0 : Int32), (i_2 + (1 : Int32))))
noncomputable def f_X9_isWrappedHead (n_a0 : Nat) (p1 : Int32) (ca0 : Nat → Int32) : Option (Int32) :=
  zj (fun (v_3 : Int32) => if v_3 = 0 then some (0 : Int32) else zk (¬ ((8 : Int32) < 0 ∨ n_a0 ≤ (8 : Int32).toNatClampNeg)) ((f_X9_isKind (ca0 (8 : Int32).toNatClampNeg)).bind (fun r_7 => if r_7 = 0 then some (0 : Int32) else zk (¬ ((8 : Int32) < 0 ∨ n_a0 ≤ (8 : Int32).toNatClampNeg)) ((f_X9_lengthFits (ca0 (8 : Int32).toNatClampNeg) p1).bind (fun r_10 => if r_10 = 0 then some (0 : Int32) else zk (¬ ((9 : Int32) < 0 ∨ n_a0 ≤ (9 : Int32).toNatClampNeg)) ((f_X9_isUsage (ca0 (9 : Int32).toNatClampNeg)).bind (fun r_13 => if r_13 = 0 then some (0 : Int32) else zk (¬ ((9 : Int32) < 0 ∨ n_a0 ≤ (9 : Int32).toNatClampNeg)) (if ((ca0 (9 : Int32).toNatClampNeg) &&& (32 : Int32)) = 0 then some (0 : Int32) else zk (¬ ((10 : Int32) < 0 ∨ n_a0 ≤ (10 : Int32).toNatClampNeg)) ((f_X9_isRole (ca0 (10 : Int32).toNatClampNeg)).bind (fun r_18 => if r_18 = 0 then some (0 : Int32) else some (1 : Int32))))))))))) (fun K_4 => zl (b_X9_isWrappedHead_5 n_a0 ca0 K_4) zF ((1 : Int32), (11 : Int32)))
noncomputable def f_X9_inBuffer (p0 : Int32) (p1 : Int32) : Option (Int32) :=
  if p0 < 0 then some (0 : Int32) else if (512 : Int32) < p0 then some (0 : Int32) else if p1 < 0 then some (0 : Int32) else if ((512 : Int32) - p0) < p1 then some (0 : Int32) else some (1 : Int32)
noncomputable def f_X9_placesFit (p0 : Int32) (p1 : Int32) (p2 : Int32) (p3 : Int32) : Option (Int32) :=
  (f_X9_inBuffer p1 p2).bind (fun r_1 => if r_1 = 0 then some (0 : Int32) else if p3 < 0 then some (0 : Int32) else if p3 ≤ (64 : Int32) then if p0 = (1 : Int32) ∨ p0 = (2 : Int32) then if p3 = 0 then zk (¬ (16 : Int32) = 0) (if (p2 - p2 / (16 : Int32) * (16 : Int32)) = 0 then some (1 : Int32) else some (0 : Int32)) else some (0 : Int32) else if p0 = (3 : Int32) ∨ p0 = (4 : Int32) then if p3 = 0 then zk (¬ (16 : Int32) = 0) (if (p2 - p2 / (16 : Int32) * (16 : Int32)) = 0 then if p2 < (16 : Int32) then some (0 : Int32) else some (1 : Int32) else some (0 : Int32)) else some (0 : Int32) else if p0 = (5 : Int32) then if p3 = 0 then if p2 < (16 : Int32) then some (0 : Int32) else some (1 : Int32) else some (0 : Int32) else if p0 = (6 : Int32) then if p2 < ((12 : Int32) + p3) then some (0 : Int32) else (f_X9_inBuffer p1 (p2 + (16 : Int32))).bind (fun r_29 => if r_29 = 0 then some (0 : Int32) else some (1 : Int32)) else if p0 = (7 : Int32) then if p2 < (((12 : Int32) + p3) + (16 : Int32)) then some (0 : Int32) else some (1 : Int32) else if p0 = (8 : Int32) then if p3 = 0 then (f_X9_inBuffer p1 (16 : Int32)).bind (fun r_38 => if r_38 = 0 then some (0 : Int32) else some (1 : Int32)) else some (0 : Int32) else if p0 = (9 : Int32) ∨ p0 = (10 : Int32) then if p3 = 0 then (f_X9_inBuffer p1 (32 : Int32)).bind (fun r_44 => if r_44 = 0 then some (0 : Int32) else some (1 : Int32)) else some (0 : Int32) else if p0 = (11 : Int32) then if (256 : Int32) < p2 then some (0 : Int32) else some (1 : Int32) else some (0 : Int32) else some (0 : Int32))
noncomputable def f_X9_bitFor (p0 : Int32) : Option (Int32) :=
  if p0 = (2 : Int32) ∨ p0 = (4 : Int32) ∨ p0 = (7 : Int32) then some (2 : Int32) else if p0 = (8 : Int32) ∨ p0 = (10 : Int32) then some (4 : Int32) else some (1 : Int32)
noncomputable def f_X9_isSlot (p0 : Int32) : Option (Int32) :=
  if p0 < 0 then some (0 : Int32) else if (16 : Int32) ≤ p0 then some (0 : Int32) else some (1 : Int32)
noncomputable def f_X9_intAt (n_a0 : Nat) (p1 : Int32) (ca0 : Nat → Int32) : Option (Int32) :=
  zk (¬ (p1 < 0 ∨ n_a0 ≤ p1.toNatClampNeg)) (zk (¬ ((p1 + (1 : Int32)) < 0 ∨ n_a0 ≤ (p1 + (1 : Int32)).toNatClampNeg)) (zk (¬ ((p1 + (2 : Int32)) < 0 ∨ n_a0 ≤ (p1 + (2 : Int32)).toNatClampNeg)) (zk (¬ ((p1 + (3 : Int32)) < 0 ∨ n_a0 ≤ (p1 + (3 : Int32)).toNatClampNeg)) (some (((((ca0 p1.toNatClampNeg) <<< ((24 : Int32) &&& 31)) ||| (((ca0 (p1 + (1 : Int32)).toNatClampNeg) &&& (255 : Int32)) <<< ((16 : Int32) &&& 31))) ||| (((ca0 (p1 + (2 : Int32)).toNatClampNeg) &&& (255 : Int32)) <<< ((8 : Int32) &&& 31))) ||| ((ca0 (p1 + (3 : Int32)).toNatClampNeg) &&& (255 : Int32)))))))
noncomputable def f_X9_putInt (n_a0 : Nat) (p1 : Int32) (p2 : Int32) (ca0 : Nat → Int32) : Option ((Nat → Int32)) :=
  zk (¬ (p1 < 0 ∨ n_a0 ≤ p1.toNatClampNeg)) (zn ((upd ca0 p1.toNatClampNeg (vp_nar .byte (((p2.toUInt32 >>> ((24 : Int32).toUInt32 &&& Int32.toUInt32 31)).toInt32).toInt8.toInt32))) : Nat → Int32) (fun ca0_1 => zk (¬ ((p1 + (1 : Int32)) < 0 ∨ n_a0 ≤ (p1 + (1 : Int32)).toNatClampNeg)) (zn ((upd ca0_1 (p1 + (1 : Int32)).toNatClampNeg (vp_nar .byte (((p2.toUInt32 >>> ((16 : Int32).toUInt32 &&& Int32.toUInt32 31)).toInt32).toInt8.toInt32))) : Nat → Int32) (fun ca0_2 => zk (¬ ((p1 + (2 : Int32)) < 0 ∨ n_a0 ≤ (p1 + (2 : Int32)).toNatClampNeg)) (zn ((upd ca0_2 (p1 + (2 : Int32)).toNatClampNeg (vp_nar .byte (((p2.toUInt32 >>> ((8 : Int32).toUInt32 &&& Int32.toUInt32 31)).toInt32).toInt8.toInt32))) : Nat → Int32) (fun ca0_3 => zk (¬ ((p1 + (3 : Int32)) < 0 ∨ n_a0 ≤ (p1 + (3 : Int32)).toNatClampNeg)) (zn ((upd ca0_3 (p1 + (3 : Int32)).toNatClampNeg (vp_nar .byte p2.toInt8.toInt32)) : Nat → Int32) (fun ca0_4 => some ca0_4))))))))
noncomputable def f_X9_longAt (n_a0 : Nat) (p1 : Int32) (ca0 : Nat → Int32) : Option (Int64) :=
  (f_X9_intAt n_a0 p1 ca0).bind (fun r_1 => (f_X9_intAt n_a0 (p1 + (4 : Int32)) ca0).bind (fun r_2 => some ((r_1.toInt64 <<< ((32 : Int32).toInt64 &&& 63)) ||| (r_2.toInt64 &&& (4294967295 : Int64)))))
noncomputable def f_X9_putLong (n_a0 : Nat) (p1 : Int32) (p2 : Int64) (ca0 : Nat → Int32) : Option ((Nat → Int32)) :=
  (f_X9_putInt n_a0 p1 (((p2.toUInt64 >>> ((32 : Int32).toInt64.toUInt64 &&& Int64.toUInt64 63)).toInt64).toInt32) ca0).bind (fun ca0_1 => (f_X9_putInt n_a0 (p1 + (4 : Int32)) p2.toInt32 ca0_1).bind (fun ca0_2 => some ca0_2))
noncomputable def b_X9_alike_6 (n_a0 : Nat) (n_a2 : Nat) (p1 : Int32) (p3 : Int32) (p4 : Int32) (ca0 : Nat → Int32) (ca2 : Nat → Int32) (K_4 : Int32 → Option Int32) (self_7 : (Int32 × Int32) → Option Int32) (z : Int32 × Int32) : Option Int32 :=
  match z with
  | (i_1, i_2) => if p4 ≤ i_2 then K_4 i_1 else zk (¬ ((p1 + i_2) < 0 ∨ n_a0 ≤ (p1 + i_2).toNatClampNeg)) (zk (¬ ((p3 + i_2) < 0 ∨ n_a2 ≤ (p3 + i_2).toNatClampNeg)) (zn ((i_1 ||| ((ca0 (p1 + i_2).toNatClampNeg) ^^^ (ca2 (p3 + i_2).toNatClampNeg))) : Int32) (fun x_10 => self_7 (x_10, (i_2 + (1 : Int32))))))
noncomputable def f_X9_alike (n_a0 : Nat) (n_a2 : Nat) (p1 : Int32) (p3 : Int32) (p4 : Int32) (ca0 : Nat → Int32) (ca2 : Nat → Int32) : Option (Int32) :=
  zj (fun (v_3 : Int32) => if v_3 = 0 then some (1 : Int32) else some (0 : Int32)) (fun K_4 => zl (b_X9_alike_6 n_a0 n_a2 p1 p3 p4 ca0 ca2 K_4) zF ((0 : Int32), (0 : Int32)))
noncomputable def b_X9_xorBytes_3 (n_a0 : Nat) (n_a2 : Nat) (p1 : Int32) (p3 : Int32) (p4 : Int32) (ca0 : Nat → Int32) (K_4 : (Nat → Int32) → Option ((Nat → Int32))) (self_5 : (Int32 × (Nat → Int32)) → Option ((Nat → Int32))) (z : Int32 × (Nat → Int32)) : Option ((Nat → Int32)) :=
  match z with
  | (i_1, ca2_2) => if p4 ≤ i_1 then K_4 ca2_2 else zk (¬ ((p3 + i_1) < 0 ∨ n_a2 ≤ (p3 + i_1).toNatClampNeg)) (zk (¬ ((p1 + i_1) < 0 ∨ n_a0 ≤ (p1 + i_1).toNatClampNeg)) (zk (¬ ((p3 + i_1) < 0 ∨ n_a2 ≤ (p3 + i_1).toNatClampNeg)) (zn ((upd ca2_2 (p3 + i_1).toNatClampNeg (vp_nar .byte (((ca2_2 (p3 + i_1).toNatClampNeg) ^^^ (ca0 (p1 + i_1).toNatClampNeg)).toInt8.toInt32))) : Nat → Int32) (fun ca2_8 => self_5 ((i_1 + (1 : Int32)), ca2_8)))))
noncomputable def f_X9_xorBytes (n_a0 : Nat) (n_a2 : Nat) (p1 : Int32) (p3 : Int32) (p4 : Int32) (ca0 : Nat → Int32) (ca2 : Nat → Int32) : Option ((Nat → Int32)) :=
  zj (fun (ca2_3 : Nat → Int32) => some ca2_3) (fun K_4 => zl (b_X9_xorBytes_3 n_a0 n_a2 p1 p3 p4 ca0 K_4) zF ((0 : Int32), ca2))
