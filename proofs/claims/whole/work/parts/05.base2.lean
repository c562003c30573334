set_option maxRecDepth 20000 in
theorem ggJ7_fill_fda19_J7_rangeCheck_23922 : GoodIn wsJ7_fill_fda19 wsJ7_rangeCheck_23922 := goodIn_r _ [4, 5, 6, 7, 8, 9, 10, 11] rfl (by decide +kernel)
set_option maxRecDepth 20000 in
theorem gJ7_fill_fda19_J7_rangeCheck_23922 : GoodIn wsJ7_fill_fda19 (va_wsS RJ7 13 yJ7_rangeCheck_23922 wsJ7_rangeCheck_23922) := goodIn_app (goodIn_of _ (by decide +kernel)) ggJ7_fill_fda19_J7_rangeCheck_23922
set_option maxRecDepth 20000 in
theorem ggJ7_fill_eb02e_J7_rangeCheck_23922 : GoodIn wsJ7_fill_eb02e wsJ7_rangeCheck_23922 := goodIn_r _ [4, 5, 6, 7, 8, 9, 10, 11] rfl (by decide +kernel)
set_option maxRecDepth 20000 in
theorem gJ7_fill_eb02e_J7_rangeCheck_23922 : GoodIn wsJ7_fill_eb02e (va_wsS RJ7 13 yJ7_rangeCheck_23922 wsJ7_rangeCheck_23922) := goodIn_app (goodIn_of _ (by decide +kernel)) ggJ7_fill_eb02e_J7_rangeCheck_23922
section ZG
variable {p : Program} {l : Launch} {e : Env} {R : Room} {s : State} {m : MethodId} {args : Array Value} {below : List Frame} {meth : Method} {c : Code} {H H0 : Heap} {locs locs0 : List Loc} {cells slots : Nat} {Q : State → Prop} {g : JFrame}
theorem zgo (h : ∀ GW : Heap → List Loc → JFrame → Prop, (∀ H locs g, GW H locs g → W p l e R s m args below meth c H locs cells slots Q g) → (∀ H locs g, W p l e R s m args below meth c H locs cells slots Q g → GW H locs g) → GW H0 locs0 g) : W p l e R s m args below meth c H0 locs0 cells slots Q g :=
  h (fun H locs g => W p l e R s m args below meth c H locs cells slots Q g) (fun _ _ _ h => h) (fun _ _ _ h => h)
theorem zat (h1 : H0 = H) (h2 : locs0 = locs) (k : W p l e R s m args below meth c H locs cells slots Q g) : W p l e R s m args below meth c H0 locs0 cells slots Q g := by
  subst h1; subst h2; exact k
end ZG
theorem zz_nar {v : Int32} (h : vp_nar .boolean v = v) : narrow .boolean (.int v) = .int v := by
  have e : narrow .boolean (.int v) = .int (vp_nar .boolean v) := rfl
  rw [e, h]
/-! the sixteen slots and their keys, as parts of a world -/
def zpO (ho hk : Nat → Nat) (kd ln us ro ue : Nat → Int32) : va_W := [(ho 0, .inr (10, [.ref (hk 0), .int (kd 0), .int (ln 0), .int (us 0), .int (ro 0), .int (ue 0)])), (ho 1, .inr (10, [.ref (hk 1), .int (kd 1), .int (ln 1), .int (us 1), .int (ro 1), .int (ue 1)])), (ho 2, .inr (10, [.ref (hk 2), .int (kd 2), .int (ln 2), .int (us 2), .int (ro 2), .int (ue 2)])), (ho 3, .inr (10, [.ref (hk 3), .int (kd 3), .int (ln 3), .int (us 3), .int (ro 3), .int (ue 3)])), (ho 4, .inr (10, [.ref (hk 4), .int (kd 4), .int (ln 4), .int (us 4), .int (ro 4), .int (ue 4)])), (ho 5, .inr (10, [.ref (hk 5), .int (kd 5), .int (ln 5), .int (us 5), .int (ro 5), .int (ue 5)])), (ho 6, .inr (10, [.ref (hk 6), .int (kd 6), .int (ln 6), .int (us 6), .int (ro 6), .int (ue 6)])), (ho 7, .inr (10, [.ref (hk 7), .int (kd 7), .int (ln 7), .int (us 7), .int (ro 7), .int (ue 7)])), (ho 8, .inr (10, [.ref (hk 8), .int (kd 8), .int (ln 8), .int (us 8), .int (ro 8), .int (ue 8)])), (ho 9, .inr (10, [.ref (hk 9), .int (kd 9), .int (ln 9), .int (us 9), .int (ro 9), .int (ue 9)])), (ho 10, .inr (10, [.ref (hk 10), .int (kd 10), .int (ln 10), .int (us 10), .int (ro 10), .int (ue 10)])), (ho 11, .inr (10, [.ref (hk 11), .int (kd 11), .int (ln 11), .int (us 11), .int (ro 11), .int (ue 11)])), (ho 12, .inr (10, [.ref (hk 12), .int (kd 12), .int (ln 12), .int (us 12), .int (ro 12), .int (ue 12)])), (ho 13, .inr (10, [.ref (hk 13), .int (kd 13), .int (ln 13), .int (us 13), .int (ro 13), .int (ue 13)])), (ho 14, .inr (10, [.ref (hk 14), .int (kd 14), .int (ln 14), .int (us 14), .int (ro 14), .int (ue 14)])), (ho 15, .inr (10, [.ref (hk 15), .int (kd 15), .int (ln 15), .int (us 15), .int (ro 15), .int (ue 15)]))]
def zpK (cA : ClassId) (hk : Nat → Nat) (ky : Nat → Nat → Int32) : va_W := [(hk 0, .inl (cA, 64, .inl (ky 0))), (hk 1, .inl (cA, 64, .inl (ky 1))), (hk 2, .inl (cA, 64, .inl (ky 2))), (hk 3, .inl (cA, 64, .inl (ky 3))), (hk 4, .inl (cA, 64, .inl (ky 4))), (hk 5, .inl (cA, 64, .inl (ky 5))), (hk 6, .inl (cA, 64, .inl (ky 6))), (hk 7, .inl (cA, 64, .inl (ky 7))), (hk 8, .inl (cA, 64, .inl (ky 8))), (hk 9, .inl (cA, 64, .inl (ky 9))), (hk 10, .inl (cA, 64, .inl (ky 10))), (hk 11, .inl (cA, 64, .inl (ky 11))), (hk 12, .inl (cA, 64, .inl (ky 12))), (hk 13, .inl (cA, 64, .inl (ky 13))), (hk 14, .inl (cA, 64, .inl (ky 14))), (hk 15, .inl (cA, 64, .inl (ky 15)))]
theorem z16 {P : Nat → Prop} {j : Nat} (hj : j < 16) (h0 : P 0) (h1 : P 1) (h2 : P 2) (h3 : P 3) (h4 : P 4) (h5 : P 5) (h6 : P 6) (h7 : P 7) (h8 : P 8) (h9 : P 9) (h10 : P 10) (h11 : P 11) (h12 : P 12) (h13 : P 13) (h14 : P 14) (h15 : P 15) : P j := by
  rcases (show j = 0 ∨ j = 1 ∨ j = 2 ∨ j = 3 ∨ j = 4 ∨ j = 5 ∨ j = 6 ∨ j = 7 ∨ j = 8 ∨ j = 9 ∨ j = 10 ∨ j = 11 ∨ j = 12 ∨ j = 13 ∨ j = 14 ∨ j = 15 by omega) with rfl | rfl | rfl | rfl | rfl | rfl | rfl | rfl | rfl | rfl | rfl | rfl | rfl | rfl | rfl | rfl <;> assumption
section ZP
variable {X Y : va_W} {ho hk : Nat → Nat} {kd ln us ro ue : Nat → Int32} {ky : Nat → Nat → Int32} {cA : ClassId} {n j : Nat} {v : Int32} {f : Nat → Int32}
theorem zpO_at (hj : j < 16) : (zpO ho hk kd ln us ro ue)[j]? = some (ho j, .inr (10, [.ref (hk j), .int (kd j), .int (ln j), .int (us j), .int (ro j), .int (ue j)])) :=
  z16 (P := fun j => (zpO ho hk kd ln us ro ue)[j]? = some (ho j, .inr (10, [.ref (hk j), .int (kd j), .int (ln j), .int (us j), .int (ro j), .int (ue j)]))) hj rfl rfl rfl rfl rfl rfl rfl rfl rfl rfl rfl rfl rfl rfl rfl rfl
theorem zpK_at (hj : j < 16) : (zpK cA hk ky)[j]? = some (hk j, .inl (cA, 64, .inl (ky j))) :=
  z16 (P := fun j => (zpK cA hk ky)[j]? = some (hk j, .inl (cA, 64, .inl (ky j)))) hj rfl rfl rfl rfl rfl rfl rfl rfl rfl rfl rfl rfl rfl rfl rfl rfl
theorem zpO_len : (zpO ho hk kd ln us ro ue).length = 16 := rfl
theorem zpK_len : (zpK cA hk ky).length = 16 := rfl
theorem zpO_get (hn : X.length = n) (hj : j < 16) : (X ++ zpO ho hk kd ln us ro ue)[n + j]? = some (ho j, .inr (10, [.ref (hk j), .int (kd j), .int (ln j), .int (us j), .int (ro j), .int (ue j)])) := by
  subst hn
  rw [List.getElem?_append_right (by omega), Nat.add_sub_cancel_left]
  exact zpO_at hj
theorem zpO_getK (hn : X.length = n) (hj : j < 16) : (X ++ zpO ho hk kd ln us ro ue ++ Y)[n + j]? = some (ho j, .inr (10, [.ref (hk j), .int (kd j), .int (ln j), .int (us j), .int (ro j), .int (ue j)])) := by
  rw [List.getElem?_append_left (by rw [List.length_append, zpO_len, hn]; omega)]
  exact zpO_get hn hj
theorem zpK_get (hn : X.length = n) (hj : j < 16) : (X ++ zpO ho hk kd ln us ro ue ++ zpK cA hk ky)[n + 16 + j]? = some (hk j, .inl (cA, 64, .inl (ky j))) := by
  subst hn
  rw [List.getElem?_append_right (by rw [List.length_append, zpO_len]; omega), List.length_append, zpO_len, Nat.add_sub_cancel_left]
  exact zpK_at hj
theorem zpO_u_kind (hj : j < 16) : (zpO ho hk kd ln us ro ue).set j (ho j, .inr (10, [.ref (hk j), .int v, .int (ln j), .int (us j), .int (ro j), .int (ue j)])) = zpO ho hk (upd kd j v) ln us ro ue :=
  z16 (P := fun j => (zpO ho hk kd ln us ro ue).set j (ho j, .inr (10, [.ref (hk j), .int v, .int (ln j), .int (us j), .int (ro j), .int (ue j)])) = zpO ho hk (upd kd j v) ln us ro ue) hj rfl rfl rfl rfl rfl rfl rfl rfl rfl rfl rfl rfl rfl rfl rfl rfl
theorem zpO_set_kind (hn : X.length = n) (hj : j < 16) : (X ++ zpO ho hk kd ln us ro ue).set (n + j) (ho j, .inr (10, [.ref (hk j), .int v, .int (ln j), .int (us j), .int (ro j), .int (ue j)])) = X ++ zpO ho hk (upd kd j v) ln us ro ue := by
  subst hn
  rw [List.set_append_right _ _ (by omega), Nat.add_sub_cancel_left, zpO_u_kind hj]
theorem zpO_setK_kind (hn : X.length = n) (hj : j < 16) : (X ++ zpO ho hk kd ln us ro ue ++ Y).set (n + j) (ho j, .inr (10, [.ref (hk j), .int v, .int (ln j), .int (us j), .int (ro j), .int (ue j)])) = X ++ zpO ho hk (upd kd j v) ln us ro ue ++ Y := by
  rw [List.set_append_left _ _ (by rw [List.length_append, zpO_len, hn]; omega), zpO_set_kind hn hj]
theorem zpO_u_length (hj : j < 16) : (zpO ho hk kd ln us ro ue).set j (ho j, .inr (10, [.ref (hk j), .int (kd j), .int v, .int (us j), .int (ro j), .int (ue j)])) = zpO ho hk kd (upd ln j v) us ro ue :=
  z16 (P := fun j => (zpO ho hk kd ln us ro ue).set j (ho j, .inr (10, [.ref (hk j), .int (kd j), .int v, .int (us j), .int (ro j), .int (ue j)])) = zpO ho hk kd (upd ln j v) us ro ue) hj rfl rfl rfl rfl rfl rfl rfl rfl rfl rfl rfl rfl rfl rfl rfl rfl
theorem zpO_set_length (hn : X.length = n) (hj : j < 16) : (X ++ zpO ho hk kd ln us ro ue).set (n + j) (ho j, .inr (10, [.ref (hk j), .int (kd j), .int v, .int (us j), .int (ro j), .int (ue j)])) = X ++ zpO ho hk kd (upd ln j v) us ro ue := by
  subst hn
  rw [List.set_append_right _ _ (by omega), Nat.add_sub_cancel_left, zpO_u_length hj]
theorem zpO_setK_length (hn : X.length = n) (hj : j < 16) : (X ++ zpO ho hk kd ln us ro ue ++ Y).set (n + j) (ho j, .inr (10, [.ref (hk j), .int (kd j), .int v, .int (us j), .int (ro j), .int (ue j)])) = X ++ zpO ho hk kd (upd ln j v) us ro ue ++ Y := by
  rw [List.set_append_left _ _ (by rw [List.length_append, zpO_len, hn]; omega), zpO_set_length hn hj]
theorem zpO_u_usage (hj : j < 16) : (zpO ho hk kd ln us ro ue).set j (ho j, .inr (10, [.ref (hk j), .int (kd j), .int (ln j), .int v, .int (ro j), .int (ue j)])) = zpO ho hk kd ln (upd us j v) ro ue :=
  z16 (P := fun j => (zpO ho hk kd ln us ro ue).set j (ho j, .inr (10, [.ref (hk j), .int (kd j), .int (ln j), .int v, .int (ro j), .int (ue j)])) = zpO ho hk kd ln (upd us j v) ro ue) hj rfl rfl rfl rfl rfl rfl rfl rfl rfl rfl rfl rfl rfl rfl rfl rfl
theorem zpO_set_usage (hn : X.length = n) (hj : j < 16) : (X ++ zpO ho hk kd ln us ro ue).set (n + j) (ho j, .inr (10, [.ref (hk j), .int (kd j), .int (ln j), .int v, .int (ro j), .int (ue j)])) = X ++ zpO ho hk kd ln (upd us j v) ro ue := by
  subst hn
  rw [List.set_append_right _ _ (by omega), Nat.add_sub_cancel_left, zpO_u_usage hj]
theorem zpO_setK_usage (hn : X.length = n) (hj : j < 16) : (X ++ zpO ho hk kd ln us ro ue ++ Y).set (n + j) (ho j, .inr (10, [.ref (hk j), .int (kd j), .int (ln j), .int v, .int (ro j), .int (ue j)])) = X ++ zpO ho hk kd ln (upd us j v) ro ue ++ Y := by
  rw [List.set_append_left _ _ (by rw [List.length_append, zpO_len, hn]; omega), zpO_set_usage hn hj]
theorem zpO_u_role (hj : j < 16) : (zpO ho hk kd ln us ro ue).set j (ho j, .inr (10, [.ref (hk j), .int (kd j), .int (ln j), .int (us j), .int v, .int (ue j)])) = zpO ho hk kd ln us (upd ro j v) ue :=
  z16 (P := fun j => (zpO ho hk kd ln us ro ue).set j (ho j, .inr (10, [.ref (hk j), .int (kd j), .int (ln j), .int (us j), .int v, .int (ue j)])) = zpO ho hk kd ln us (upd ro j v) ue) hj rfl rfl rfl rfl rfl rfl rfl rfl rfl rfl rfl rfl rfl rfl rfl rfl
theorem zpO_set_role (hn : X.length = n) (hj : j < 16) : (X ++ zpO ho hk kd ln us ro ue).set (n + j) (ho j, .inr (10, [.ref (hk j), .int (kd j), .int (ln j), .int (us j), .int v, .int (ue j)])) = X ++ zpO ho hk kd ln us (upd ro j v) ue := by
  subst hn
  rw [List.set_append_right _ _ (by omega), Nat.add_sub_cancel_left, zpO_u_role hj]
theorem zpO_setK_role (hn : X.length = n) (hj : j < 16) : (X ++ zpO ho hk kd ln us ro ue ++ Y).set (n + j) (ho j, .inr (10, [.ref (hk j), .int (kd j), .int (ln j), .int (us j), .int v, .int (ue j)])) = X ++ zpO ho hk kd ln us (upd ro j v) ue ++ Y := by
  rw [List.set_append_left _ _ (by rw [List.length_append, zpO_len, hn]; omega), zpO_set_role hn hj]
theorem zpO_u_uses (hj : j < 16) : (zpO ho hk kd ln us ro ue).set j (ho j, .inr (10, [.ref (hk j), .int (kd j), .int (ln j), .int (us j), .int (ro j), .int v])) = zpO ho hk kd ln us ro (upd ue j v) :=
  z16 (P := fun j => (zpO ho hk kd ln us ro ue).set j (ho j, .inr (10, [.ref (hk j), .int (kd j), .int (ln j), .int (us j), .int (ro j), .int v])) = zpO ho hk kd ln us ro (upd ue j v)) hj rfl rfl rfl rfl rfl rfl rfl rfl rfl rfl rfl rfl rfl rfl rfl rfl
theorem zpO_set_uses (hn : X.length = n) (hj : j < 16) : (X ++ zpO ho hk kd ln us ro ue).set (n + j) (ho j, .inr (10, [.ref (hk j), .int (kd j), .int (ln j), .int (us j), .int (ro j), .int v])) = X ++ zpO ho hk kd ln us ro (upd ue j v) := by
  subst hn
  rw [List.set_append_right _ _ (by omega), Nat.add_sub_cancel_left, zpO_u_uses hj]
theorem zpO_setK_uses (hn : X.length = n) (hj : j < 16) : (X ++ zpO ho hk kd ln us ro ue ++ Y).set (n + j) (ho j, .inr (10, [.ref (hk j), .int (kd j), .int (ln j), .int (us j), .int (ro j), .int v])) = X ++ zpO ho hk kd ln us ro (upd ue j v) ++ Y := by
  rw [List.set_append_left _ _ (by rw [List.length_append, zpO_len, hn]; omega), zpO_set_uses hn hj]
theorem zpK_u (hj : j < 16) : (zpK cA hk ky).set j (hk j, .inl (cA, 64, .inl f)) = zpK cA hk (va_up ky j f) :=
  z16 (P := fun j => (zpK cA hk ky).set j (hk j, .inl (cA, 64, .inl f)) = zpK cA hk (va_up ky j f)) hj rfl rfl rfl rfl rfl rfl rfl rfl rfl rfl rfl rfl rfl rfl rfl rfl
theorem zpK_set (hn : X.length = n) (hj : j < 16) : (X ++ zpO ho hk kd ln us ro ue ++ zpK cA hk ky).set (n + 16 + j) (hk j, .inl (cA, 64, .inl f)) = X ++ zpO ho hk kd ln us ro ue ++ zpK cA hk (va_up ky j f) := by
  subst hn
  rw [List.set_append_right _ _ (by rw [List.length_append, zpO_len]; omega), List.length_append, zpO_len, Nat.add_sub_cancel_left, zpK_u hj]
end ZP
section ZCT
variable {p : Program} {l : Launch} {e : Env} {R : Room} {s : State} {m : MethodId} {args : Array Value} {below : List Frame} {meth : Method} {c : Code} {H : Heap} {locs : List Loc} {cells slots : Nat} {Q : State → Prop}
variable {pc : Nat} {ls : Array Slot} {rest : List Value} {D : va_G} {cl : List vw_C} {tys : List (ClassId × FieldType)} {ws : va_W} {A : Nat → Prop} {a : Nat}
/-- arraycopy out of a static table of ints -/
theorem zcopyT {cc : ByteArray} (hexec : p.tables.exec = Jvm.exec) (hb : c.code = cc) (hml : c.maxLocals = ls.size) {own : String} {index : Nat} (hown : s.vm.findClass own = some m.cls) (hlink : (Cond.methodLink own index arraycopyName).before args s = true) (hnat : (Cond.native arraycopyName).before args s = true) (hstat : (Cond.static arraycopyName).before args s = true) (hini : (Cond.initialized "java/lang/System").before args s = true)
    (hK : va_K D cl tys s) (hP : va_P D cl ws H) (hD : va_D A ws) (hS : va_S A s.heap H locs) {b0 n0 : Nat} {fv : Nat → Value} (hX : va_T .int b0 n0 fv A s s.heap) (q1 t1 : Nat) {f : Nat → Int32} (hfv : ∀ j, fv j = .int (f j)) {c1 : ClassId} {n1 : Nat} {g : Nat → Int32} (ha1 : ws[q1]? = some (a, .inl (c1, n1, .inl g))) (ht1 : tys[t1]? = some (c1, .int))
    {sp dp n : Int32} (h1 : ¬ sp < 0) (h2 : ¬ dp < 0) (h3 : ¬ n < 0) (h4 : sp.toNatClampNeg + n.toNatClampNeg ≤ n0) (h5 : dp.toNatClampNeg + n.toNatClampNeg ≤ n1)
    (hframes : 1 ≤ R.frames) (hlocals : (rest.map fun v => v.category).sum + (nativeFrameWords "java/lang/System" "arraycopy" 5 + 11) ≤ R.locals) (hdg : decode cc pc = .ok (.invokestatic index, 3))
    (kk : ∀ (H1 : Heap) (locs1 : List Loc), va_P D cl (ws.set q1 (a, .inl (c1, n1, .inl (va_cpy f g sp.toNatClampNeg dp.toNatClampNeg n.toNatClampNeg)))) H1 → va_D A (ws.set q1 (a, .inl (c1, n1, .inl (va_cpy f g sp.toNatClampNeg dp.toNatClampNeg n.toNatClampNeg)))) → va_S A s.heap H1 locs1 → W p l e R s m args below meth c H1 locs1 cells slots Q (F0 m (pc + 3) ls rest)) : W p l e R s m args below meth c H locs cells slots Q (F0 m pc ls (.int n :: .int dp :: .ref a :: .int sp :: .ref b0 :: rest)) := by
  have nn : ∀ z : Int32, ¬ z < 0 → z.toInt = (z.toNatClampNeg : Int) := by
    intro z hz
    have hz0 : (0 : Int) ≤ z.toInt := by
      have := Int32.not_lt.mp hz
      simpa using Int32.le_iff_toInt_le.mp this
    show z.toInt = ((z.toInt.toNat : Nat) : Int)
    omega
  intro T hT X
  obtain ⟨scr, hs1, hs2, hs3, hs4, -, hs5, hbA⟩ := hX
  have hs5 : ∀ j : Nat, j < n0 → scr.slots[j]? = some (.int (f j)) := fun j hj => by rw [hs5 j hj, hfv]
  have hbl : b0 < s.heap.size := (Array.getElem?_eq_some_iff.mp hs1).1
  have hc0 : H[b0]? = some scr := by rw [hS.2.1 b0 hbl hbA]; exact hs1
  have hc1 : H[a]? = some (vp_cell c1 (n1, .inl g)) := hP q1 _ ha1
  obtain ⟨hs6, k0, hk0, cm0, hkk0⟩ := hs2
  obtain ⟨-, k1, hk1, cm1, hkk1⟩ := (hK.2 t1 _ ht1).1 n1 (fun j => .int (g j))
  obtain ⟨vm', X', step⟩ := X.arraycopy hexec hown hlink hnat hstat hini (src := b0) (dst := a) (cs := scr) (cd := vp_cell c1 (n1, .inl g)) (srcPos := sp) (destPos := dp) (n := n) (by rw [hT]; exact hc0) (by rw [hT]; exact hc1)
    hs6 (fun _ h => by cases h) hs3 (fun h => by cases h) hk0 hk1 hkk0 hkk1 (by simp [refKind]) h1 h2 h3
    (by rw [nn sp h1, nn n h3]; omega)
    (by rw [nn dp h2, nn n h3]; show ¬ _ > ((arrV c1 n1 (fun j => .int (g j))).slots.size : Int); rw [arrV_size]; omega)
    (fun vm₁ _ i hi => by
      have e : scr.slots.getD (sp.toNatClampNeg + i) .null = .int (f (sp.toNatClampNeg + i)) := by
        rw [Array.getD_eq_getD_getElem?, hs5 _ (by omega)]
        rfl
      refine ⟨?_, ?_⟩
      · rw [e]
        rfl
      · rw [e]
        exact trivial)
    (g := F0 m pc ls (.int n :: .int dp :: .ref a :: .int sp :: .ref b0 :: rest)) rfl (by rw [hml]) (rest := rest) rfl (by rw [hb]; exact hdg) hframes (by show 2 * 0 + _ + _ ≤ _; omega)
  have e1 : copied scr (vp_cell c1 (n1, .inl g)) sp dp n = vp_cell c1 (n1, .inl (va_cpy f g sp.toNatClampNeg dp.toNatClampNeg n.toNatClampNeg)) := va_copiedX (fun z => .int z) scr c1 f g hs5 h4
  rw [e1] at X' step
  have hl : a < H.size := (Array.getElem?_eq_some_iff.mp hc1).1
  have hheap : ((T.setVm vm').setCell a (vp_cell c1 (n1, .inl (va_cpy f g sp.toNatClampNeg dp.toNatClampNeg n.toNatClampNeg)))).heap = H.setIfInBounds a (vp_cell c1 (n1, .inl (va_cpy f g sp.toNatClampNeg dp.toNatClampNeg n.toNatClampNeg))) := by rw [← hT]; rfl
  have oq : ∀ q : Nat, q ≠ a → (H.setIfInBounds a (vp_cell c1 (n1, .inl (va_cpy f g sp.toNatClampNeg dp.toNatClampNeg n.toNatClampNeg))))[q]? = H[q]? := fun q hq => by simp [Array.getElem?_setIfInBounds, Ne.symm hq]
  obtain ⟨t, a1, b1⟩ := kk _ _ (hP.set hD ha1 (show (H.setIfInBounds a _)[a]? = some _ by simp [Array.getElem?_setIfInBounds, hl]) oq) (hD.set ha1) ⟨by simp; exact hS.1, fun q g1 g2 => by
      rw [oq q (fun e => g2 (by rw [e]; exact hD.2 q1 _ ha1))]
      exact hS.2.1 q g1 g2, fun q hq => by
      rcases List.mem_append.mp hq with h | h
      · exact hS.2.2 q h
      · obtain ⟨z, -, hz⟩ := List.mem_map.mp h
        rw [← hz]
        exact hD.2 q1 _ ha1⟩ _ hheap X'
  exact ⟨t, step t a1, b1⟩
end ZCT
