noncomputable def f_X8_isEmpty (j0 : Nat) (cP_kind : Nat → Int32) : Option (Int32) :=
  if (cP_kind j0) = 0 then some (1 : Int32) else some (0 : Int32)
noncomputable def f_X8_allows (j0 : Nat) (p1 : Int32) (cP_usage : Nat → Int32) : Option (Int32) :=
  if ((cP_usage j0) &&& p1) = 0 then some (0 : Int32) else some (1 : Int32)
noncomputable def f_X8_fill (n_a5 : Nat) (j0 : Nat) (p1 : Int32) (p2 : Int32) (p3 : Int32) (p4 : Int32) (p6 : Int32) (p7 : Int32) (ca5 : Nat → Int32) (cP_kind : Nat → Int32) (cP_length : Nat → Int32) (cP_role : Nat → Int32) (cP_usage : Nat → Int32) (cP_uses : Nat → Int32) (cPK : Nat → Nat → Int32) : Option ((Nat → Int32) × (Nat → Int32) × (Nat → Int32) × (Nat → Int32) × (Nat → Int32) × (Nat → Nat → Int32)) :=
  zk (¬ p6 < 0 ∧ ¬ (0 : Int32) < 0 ∧ ¬ p7 < 0 ∧ p6.toNatClampNeg + p7.toNatClampNeg ≤ n_a5 ∧ (0 : Int32).toNatClampNeg + p7.toNatClampNeg ≤ 64 ∧ (∀ i, i < p7.toNatClampNeg → fits .byte (.int (ca5 (p6.toNatClampNeg + i))) = true)) (some ((upd cP_kind j0 p1), (upd cP_length j0 p7), (upd cP_role j0 p3), (upd cP_usage j0 p2), (upd cP_uses j0 p4), (va_up cPK j0 (va_cpy ca5 (cPK j0) p6.toNatClampNeg (0 : Int32).toNatClampNeg p7.toNatClampNeg))))
noncomputable def b_J7_fill_031fb_0PK_5 (j0 : Nat) (p1 : Int32) (K_4 : (Nat → Nat → Int32) → Option ((Nat → Nat → Int32))) (self_5 : (Int32 × (Nat → Nat → Int32)) → Option ((Nat → Nat → Int32))) (z : Int32 × (Nat → Nat → Int32)) : Option ((Nat → Nat → Int32)) :=
  match z with
  | (i_1, cPK_2) => if (64 : Int32) ≤ i_1 then K_4 cPK_2 else zk (¬ (i_1 < 0 ∨ 64 ≤ i_1.toNatClampNeg)) (self_5 ((i_1 + (1 : Int32)), (va_up cPK_2 j0 (upd (cPK_2 j0) i_1.toNatClampNeg (vp_nar .byte p1)))))
noncomputable def f_J7_fill_031fb_0PK (j0 : Nat) (p1 : Int32) (cPK : Nat → Nat → Int32) : Option ((Nat → Nat → Int32)) :=
  zj (fun (cPK_3 : Nat → Nat → Int32) => some cPK_3) (fun K_4 => zl (b_J7_fill_031fb_0PK_5 j0 p1 K_4) zF ((0 : Int32), cPK))
noncomputable def f_X8_clear (j0 : Nat) (cP_kind : Nat → Int32) (cPK : Nat → Nat → Int32) : Option ((Nat → Int32) × (Nat → Nat → Int32)) :=
  (f_J7_fill_031fb_0PK j0 (0 : Int32) cPK).bind (fun cPK_1 => some ((upd cP_kind j0 (0 : Int32)), cPK_1))
noncomputable def f_X8_takeUse (j0 : Nat) (cP_uses : Nat → Int32) : Option ((Nat → Int32)) :=
  if (cP_uses j0) ≤ 0 then some cP_uses else zn (((cP_uses j0) - (1 : Int32)) : Int32) (fun x_3 => some (upd cP_uses j0 x_3))
