def zmo (hm : Nat → Nat) (x_thrown : Int32) (x_state : Int32) (x_test : Int32) (x_words : Int32) (x_ill : Int32) (x_before : Int32) (x_inRow : Int32) (x_first : Int32) (x_inWindow : Int32) (x_same : Int32) (x_made : Int32) (x_requests : Int32) (x_total : Int64) (x_secrets : Int32) (x_rounds : Int32) (x_high : Int64) (x_low : Int64) (x_keyHigh : Int64) (x_keyLow : Int64) : List Value := [.ref (hm 0), .int x_thrown, .int x_state, .int x_test, .ref (hm 4), .ref (hm 5), .ref (hm 6), .ref (hm 7), .ref (hm 8), .ref (hm 9), .ref (hm 10), .ref (hm 11), .ref (hm 12), .ref (hm 13), .ref (hm 14), .int x_words, .ref (hm 16), .int x_ill, .int x_before, .int x_inRow, .int x_first, .int x_inWindow, .int x_same, .int x_made, .int x_requests, .ref (hm 25), .ref (hm 26), .ref (hm 27), .ref (hm 28), .ref (hm 29), .ref (hm 30), .ref (hm 31), .ref (hm 32), .ref (hm 33), .long x_total, .ref (hm 35), .ref (hm 36), .ref (hm 37), .int x_secrets, .ref (hm 39), .ref (hm 40), .ref (hm 41), .int x_rounds, .ref (hm 43), .ref (hm 44), .ref (hm 45), .ref (hm 46), .ref (hm 47), .long x_high, .long x_low, .long x_keyHigh, .long x_keyLow]
section ZG
variable {p : Program} {l : Launch} {e : Env} {R : Room} {s : State} {m : MethodId} {args : Array Value} {below : List Frame} {meth : Method} {c : Code} {H H0 : Heap} {locs locs0 : List Loc} {cells slots : Nat} {Q : State → Prop} {g : JFrame}
theorem zgo (h : ∀ GW : Heap → List Loc → JFrame → Prop, (∀ H locs g, GW H locs g → W p l e R s m args below meth c H locs cells slots Q g) → (∀ H locs g, W p l e R s m args below meth c H locs cells slots Q g → GW H locs g) → GW H0 locs0 g) : W p l e R s m args below meth c H0 locs0 cells slots Q g :=
  h (fun H locs g => W p l e R s m args below meth c H locs cells slots Q g) (fun _ _ _ h => h) (fun _ _ _ h => h)
theorem zat (h1 : H0 = H) (h2 : locs0 = locs) (k : W p l e R s m args below meth c H locs cells slots Q g) : W p l e R s m args below meth c H0 locs0 cells slots Q g := by
  subst h1; subst h2; exact k
end ZG
theorem zz_nar {v : Int32} (h : vp_nar .boolean v = v) : narrow .boolean (.int v) = .int v := by
  have e : narrow .boolean (.int v) = .int (vp_nar .boolean v) := rfl
  rw [e, h]
/-! the sixteen slots and their keys, as parts of a world -/
def zpO (ho hk : Nat → Nat) (kd ln us ro ue : Nat → Int32) : va_W := [(ho 0, .inr (10, [.ref (hk 0), .int (kd 0), .int (ln 0), .int (us 0), .int (ro 0), .int (ue 0)])), (ho 1, .inr (10, [.ref (hk 1), .int (kd 1), .int (ln 1), .int (us 1), .int (ro 1), .int (ue 1)])), (ho 2, .inr (10, [.ref (hk 2), .int (kd 2), .int (ln 2), .int (us 2), .int (ro 2), .int (ue 2)])), (ho 3, .inr (10, [.ref (hk 3), .int (kd 3), .int (ln 3), .int (us 3), .int (ro 3), .int (ue 3)])), (ho 4, .inr (10, [.ref (hk 4), .int (kd 4), .int (ln 4), .int (us 4), .int (ro 4), .int (ue 4)])), (ho 5, .inr (10, [.ref (hk 5), .int (kd 5), .int (ln 5), .int (us 5), .int (ro 5), .int (ue 5)])), (ho 6, .inr (10, [.ref (hk 6), .int (kd 6), .int (ln 6), .int (us 6), .int (ro 6), .int (ue 6)])), (ho 7, .inr (10, [.ref (hk 7), .int (kd 7), .int (ln 7), .int (us 7), .int (ro 7), .int (ue 7)])), (ho 8, .inr (10, [.ref (hk 8), .int (kd 8), .int (ln 8), .int (us 8), .int (ro 8), .int (ue 8)])), (ho 9, .inr (10, [.ref (hk 9), .int (kd 9), .int (ln 9), .int (us 9), .int (ro 9), .int (ue 9)])), (ho 10, .inr (10, [.ref (hk 10), .int (kd 10), .int (ln 10), .int (us 10), .int (ro 10), .int (ue 10)])), (ho 11, .inr (10, [.ref (hk 11), .int (kd 11), .int (ln 11), .int (us 11), .int (ro 11), .int (ue 11)])), (ho 12, .inr (10, [.ref (hk 12), .int (kd 12), .int (ln 12), .int (us 12), .int (ro 12), .int (ue 12)])), (ho 13, .inr (10, [.ref (hk 13), .int (kd 13), .int (ln 13), .int (us 13), .int (ro 13), .int (ue 13)])), (ho 14, .inr (10, [.ref (hk 14), .int (kd 14), .int (ln 14), .int (us 14), .int (ro 14), .int (ue 14)])), (ho 15, .inr (10, [.ref (hk 15), .int (kd 15), .int (ln 15), .int (us 15), .int (ro 15), .int (ue 15)]))]
def zpK (cA : ClassId) (hk : Nat → Nat) (ky : Nat → Nat → Int32) : va_W := [(hk 0, .inl (cA, 64, .inl (ky 0))), (hk 1, .inl (cA, 64, .inl (ky 1))), (hk 2, .inl (cA, 64, .inl (ky 2))), (hk 3, .inl (cA, 64, .inl (ky 3))), (hk 4, .inl (cA, 64, .inl (ky 4))), (hk 5, .inl (cA, 64, .inl (ky 5))), (hk 6, .inl (cA, 64, .inl (ky 6))), (hk 7, .inl (cA, 64, .inl (ky 7))), (hk 8, .inl (cA, 64, .inl (ky 8))), (hk 9, .inl (cA, 64, .inl (ky 9))), (hk 10, .inl (cA, 64, .inl (ky 10))), (hk 11, .inl (cA, 64, .inl (ky 11))), (hk 12, .inl (cA, 64, .inl (ky 12))), (hk 13, .inl (cA, 64, .inl (ky 13))), (hk 14, .inl (cA, 64, .inl (ky 14))), (hk 15, .inl (cA, 64, .inl (ky 15)))]
theorem z16 {P : Nat → Prop} {j : Nat} (hj : j < 16) (h0 : P 0) (h1 : P 1) (h2 : P 2) (h3 : P 3) (h4 : P 4) (h5 : P 5) (h6 : P 6) (h7 : P 7) (h8 : P 8) (h9 : P 9) (h10 : P 10) (h11 : P 11) (h12 : P 12) (h13 : P 13) (h14 : P 14) (h15 : P 15) : P j := by
  rcases (show j = 0 ∨ j = 1 ∨ j = 2 ∨ j = 3 ∨ j = 4 ∨ j = 5 ∨ j = 6 ∨ j = 7 ∨ j = 8 ∨ j = 9 ∨ j = 10 ∨ j = 11 ∨ j = 12 ∨ j = 13 ∨ j = 14 ∨ j = 15 by omega) with rfl | rfl | rfl | rfl | rfl | rfl | rfl | rfl | rfl | rfl | rfl | rfl | rfl | rfl | rfl | rfl <;> assumption
section ZP
variable {X Y : va_W} {ho hk : Nat → Nat} {kd ln us ro ue : Nat → Int32} {ky : Nat → Nat → Int32} {cA : ClassId} {n j : Nat} {v : Int32} {f : Nat → Int32}
theorem zpO_at (hj : j < 16) : (zpO ho hk kd ln us ro ue)[j]? = some (ho j, .inr (10, [.ref (hk j), .int (kd j), .int (ln j), .int (us j), .int (ro j), .int (ue j)])) :=
  z16 (P := fun j => (zpO ho hk kd ln us ro ue)[j]? = some (ho j, .inr (10, [.ref (hk j), .int (kd j), .int (ln j), .int (us j), .int (ro j), .int (ue j)]))) hj rfl rfl rfl rfl rfl rfl rfl rfl rfl rfl rfl rfl rfl rfl rfl rfl
theorem zpK_at (hj : j < 16) : (zpK cA hk ky)[j]? = some (hk j, .inl (cA, 64, .inl (ky j))) :=
  z16 (P := fun j => (zpK cA hk ky)[j]? = some (hk j, .inl (cA, 64, .inl (ky j)))) hj rfl rfl rfl rfl rfl rfl rfl rfl rfl rfl rfl rfl rfl rfl rfl rfl
theorem zpO_len : (zpO ho hk kd ln us ro ue).length = 16 := rfl
theorem zpK_len : (zpK cA hk ky).length = 16 := rfl
theorem zpO_get (hn : X.length = n) (hj : j < 16) : (X ++ zpO ho hk kd ln us ro ue)[n + j]? = some (ho j, .inr (10, [.ref (hk j), .int (kd j), .int (ln j), .int (us j), .int (ro j), .int (ue j)])) := by
  subst hn
  rw [List.getElem?_append_right (by omega), Nat.add_sub_cancel_left]
  exact zpO_at hj
theorem zpO_getK (hn : X.length = n) (hj : j < 16) : (X ++ zpO ho hk kd ln us ro ue ++ Y)[n + j]? = some (ho j, .inr (10, [.ref (hk j), .int (kd j), .int (ln j), .int (us j), .int (ro j), .int (ue j)])) := by
  rw [List.getElem?_append_left (by rw [List.length_append, zpO_len, hn]; omega)]
  exact zpO_get hn hj
theorem zpK_get (hn : X.length = n) (hj : j < 16) : (X ++ zpO ho hk kd ln us ro ue ++ zpK cA hk ky)[n + 16 + j]? = some (hk j, .inl (cA, 64, .inl (ky j))) := by
  subst hn
  rw [List.getElem?_append_right (by rw [List.length_append, zpO_len]; omega), List.length_append, zpO_len, Nat.add_sub_cancel_left]
  exact zpK_at hj
theorem zpO_u_kind (hj : j < 16) : (zpO ho hk kd ln us ro ue).set j (ho j, .inr (10, [.ref (hk j), .int v, .int (ln j), .int (us j), .int (ro j), .int (ue j)])) = zpO ho hk (upd kd j v) ln us ro ue :=
  z16 (P := fun j => (zpO ho hk kd ln us ro ue).set j (ho j, .inr (10, [.ref (hk j), .int v, .int (ln j), .int (us j), .int (ro j), .int (ue j)])) = zpO ho hk (upd kd j v) ln us ro ue) hj rfl rfl rfl rfl rfl rfl rfl rfl rfl rfl rfl rfl rfl rfl rfl rfl
theorem zpO_set_kind (hn : X.length = n) (hj : j < 16) : (X ++ zpO ho hk kd ln us ro ue).set (n + j) (ho j, .inr (10, [.ref (hk j), .int v, .int (ln j), .int (us j), .int (ro j), .int (ue j)])) = X ++ zpO ho hk (upd kd j v) ln us ro ue := by
  subst hn
  rw [List.set_append_right _ _ (by omega), Nat.add_sub_cancel_left, zpO_u_kind hj]
theorem zpO_setK_kind (hn : X.length = n) (hj : j < 16) : (X ++ zpO ho hk kd ln us ro ue ++ Y).set (n + j) (ho j, .inr (10, [.ref (hk j), .int v, .int (ln j), .int (us j), .int (ro j), .int (ue j)])) = X ++ zpO ho hk (upd kd j v) ln us ro ue ++ Y := by
  rw [List.set_append_left _ _ (by rw [List.length_append, zpO_len, hn]; omega), zpO_set_kind hn hj]
theorem zpO_u_length (hj : j < 16) : (zpO ho hk kd ln us ro ue).set j (ho j, .inr (10, [.ref (hk j), .int (kd j), .int v, .int (us j), .int (ro j), .int (ue j)])) = zpO ho hk kd (upd ln j v) us ro ue :=
  z16 (P := fun j => (zpO ho hk kd ln us ro ue).set j (ho j, .inr (10, [.ref (hk j), .int (kd j), .int v, .int (us j), .int (ro j), .int (ue j)])) = zpO ho hk kd (upd ln j v) us ro ue) hj rfl rfl rfl rfl rfl rfl rfl rfl rfl rfl rfl rfl rfl rfl rfl rfl
theorem zpO_set_length (hn : X.length = n) (hj : j < 16) : (X ++ zpO ho hk kd ln us ro ue).set (n + j) (ho j, .inr (10, [.ref (hk j), .int (kd j), .int v, .int (us j), .int (ro j), .int (ue j)])) = X ++ zpO ho hk kd (upd ln j v) us ro ue := by
  subst hn
  rw [List.set_append_right _ _ (by omega), Nat.add_sub_cancel_left, zpO_u_length hj]
theorem zpO_setK_length (hn : X.length = n) (hj : j < 16) : (X ++ zpO ho hk kd ln us ro ue ++ Y).set (n + j) (ho j, .inr (10, [.ref (hk j), .int (kd j), .int v, .int (us j), .int (ro j), .int (ue j)])) = X ++ zpO ho hk kd (upd ln j v) us ro ue ++ Y := by
  rw [List.set_append_left _ _ (by rw [List.length_append, zpO_len, hn]; omega), zpO_set_length hn hj]
theorem zpO_u_usage (hj : j < 16) : (zpO ho hk kd ln us ro ue).set j (ho j, .inr (10, [.ref (hk j), .int (kd j), .int (ln j), .int v, .int (ro j), .int (ue j)])) = zpO ho hk kd ln (upd us j v) ro ue :=
  z16 (P := fun j => (zpO ho hk kd ln us ro ue).set j (ho j, .inr (10, [.ref (hk j), .int (kd j), .int (ln j), .int v, .int (ro j), .int (ue j)])) = zpO ho hk kd ln (upd us j v) ro ue) hj rfl rfl rfl rfl rfl rfl rfl rfl rfl rfl rfl rfl rfl rfl rfl rfl
theorem zpO_set_usage (hn : X.length = n) (hj : j < 16) : (X ++ zpO ho hk kd ln us ro ue).set (n + j) (ho j, .inr (10, [.ref (hk j), .int (kd j), .int (ln j), .int v, .int (ro j), .int (ue j)])) = X ++ zpO ho hk kd ln (upd us j v) ro ue := by
  subst hn
  rw [List.set_append_right _ _ (by omega), Nat.add_sub_cancel_left, zpO_u_usage hj]
theorem zpO_setK_usage (hn : X.length = n) (hj : j < 16) : (X ++ zpO ho hk kd ln us ro ue ++ Y).set (n + j) (ho j, .inr (10, [.ref (hk j), .int (kd j), .int (ln j), .int v, .int (ro j), .int (ue j)])) = X ++ zpO ho hk kd ln (upd us j v) ro ue ++ Y := by
  rw [List.set_append_left _ _ (by rw [List.length_append, zpO_len, hn]; omega), zpO_set_usage hn hj]
theorem zpO_u_role (hj : j < 16) : (zpO ho hk kd ln us ro ue).set j (ho j, .inr (10, [.ref (hk j), .int (kd j), .int (ln j), .int (us j), .int v, .int (ue j)])) = zpO ho hk kd ln us (upd ro j v) ue :=
  z16 (P := fun j => (zpO ho hk kd ln us ro ue).set j (ho j, .inr (10, [.ref (hk j), .int (kd j), .int (ln j), .int (us j), .int v, .int (ue j)])) = zpO ho hk kd ln us (upd ro j v) ue) hj rfl rfl rfl rfl rfl rfl rfl rfl rfl rfl rfl rfl rfl rfl rfl rfl
theorem zpO_set_role (hn : X.length = n) (hj : j < 16) : (X ++ zpO ho hk kd ln us ro ue).set (n + j) (ho j, .inr (10, [.ref (hk j), .int (kd j), .int (ln j), .int (us j), .int v, .int (ue j)])) = X ++ zpO ho hk kd ln us (upd ro j v) ue := by
  subst hn
  rw [List.set_append_right _ _ (by omega), Nat.add_sub_cancel_left, zpO_u_role hj]
theorem zpO_setK_role (hn : X.length = n) (hj : j < 16) : (X ++ zpO ho hk kd ln us ro ue ++ Y).set (n + j) (ho j, .inr (10, [.ref (hk j), .int (kd j), .int (ln j), .int (us j), .int v, .int (ue j)])) = X ++ zpO ho hk kd ln us (upd ro j v) ue ++ Y := by
  rw [List.set_append_left _ _ (by rw [List.length_append, zpO_len, hn]; omega), zpO_set_role hn hj]
theorem zpO_u_uses (hj : j < 16) : (zpO ho hk kd ln us ro ue).set j (ho j, .inr (10, [.ref (hk j), .int (kd j), .int (ln j), .int (us j), .int (ro j), .int v])) = zpO ho hk kd ln us ro (upd ue j v) :=
  z16 (P := fun j => (zpO ho hk kd ln us ro ue).set j (ho j, .inr (10, [.ref (hk j), .int (kd j), .int (ln j), .int (us j), .int (ro j), .int v])) = zpO ho hk kd ln us ro (upd ue j v)) hj rfl rfl rfl rfl rfl rfl rfl rfl rfl rfl rfl rfl rfl rfl rfl rfl
theorem zpO_set_uses (hn : X.length = n) (hj : j < 16) : (X ++ zpO ho hk kd ln us ro ue).set (n + j) (ho j, .inr (10, [.ref (hk j), .int (kd j), .int (ln j), .int (us j), .int (ro j), .int v])) = X ++ zpO ho hk kd ln us ro (upd ue j v) := by
  subst hn
  rw [List.set_append_right _ _ (by omega), Nat.add_sub_cancel_left, zpO_u_uses hj]
theorem zpO_setK_uses (hn : X.length = n) (hj : j < 16) : (X ++ zpO ho hk kd ln us ro ue ++ Y).set (n + j) (ho j, .inr (10, [.ref (hk j), .int (kd j), .int (ln j), .int (us j), .int (ro j), .int v])) = X ++ zpO ho hk kd ln us ro (upd ue j v) ++ Y := by
  rw [List.set_append_left _ _ (by rw [List.length_append, zpO_len, hn]; omega), zpO_set_uses hn hj]
theorem zpK_u (hj : j < 16) : (zpK cA hk ky).set j (hk j, .inl (cA, 64, .inl f)) = zpK cA hk (va_up ky j f) :=
  z16 (P := fun j => (zpK cA hk ky).set j (hk j, .inl (cA, 64, .inl f)) = zpK cA hk (va_up ky j f)) hj rfl rfl rfl rfl rfl rfl rfl rfl rfl rfl rfl rfl rfl rfl rfl rfl
theorem zpK_set (hn : X.length = n) (hj : j < 16) : (X ++ zpO ho hk kd ln us ro ue ++ zpK cA hk ky).set (n + 16 + j) (hk j, .inl (cA, 64, .inl f)) = X ++ zpO ho hk kd ln us ro ue ++ zpK cA hk (va_up ky j f) := by
  subst hn
  rw [List.set_append_right _ _ (by rw [List.length_append, zpO_len]; omega), List.length_append, zpO_len, Nat.add_sub_cancel_left, zpK_u hj]
end ZP
section ZCT
variable {p : Program} {l : Launch} {e : Env} {R : Room} {s : State} {m : MethodId} {args : Array Value} {below : List Frame} {meth : Method} {c : Code} {H : Heap} {locs : List Loc} {cells slots : Nat} {Q : State → Prop}
variable {pc : Nat} {ls : Array Slot} {rest : List Value} {D : va_G} {cl : List vw_C} {tys : List (ClassId × FieldType)} {ws : va_W} {A : Nat → Prop} {a : Nat}
/-- arraycopy out of a static table of ints -/
theorem zcopyT {cc : ByteArray} (hexec : p.tables.exec = Jvm.exec) (hb : c.code = cc) (hml : c.maxLocals = ls.size) {own : String} {index : Nat} (hown : s.vm.findClass own = some m.cls) (hlink : (Cond.methodLink own index arraycopyName).before args s = true) (hnat : (Cond.native arraycopyName).before args s = true) (hstat : (Cond.static arraycopyName).before args s = true) (hini : (Cond.initialized "java/lang/System").before args s = true)
    (hK : va_K D cl tys s) (hP : va_P D cl ws H) (hD : va_D A ws) (hS : va_S A s.heap H locs) {b0 n0 : Nat} {fv : Nat → Value} (hX : va_T .int b0 n0 fv A s s.heap) (q1 t1 : Nat) {f : Nat → Int32} (hfv : ∀ j, fv j = .int (f j)) {c1 : ClassId} {n1 : Nat} {g : Nat → Int32} (ha1 : ws[q1]? = some (a, .inl (c1, n1, .inl g))) (ht1 : tys[t1]? = some (c1, .int))
    {sp dp n : Int32} (h1 : ¬ sp < 0) (h2 : ¬ dp < 0) (h3 : ¬ n < 0) (h4 : sp.toNatClampNeg + n.toNatClampNeg ≤ n0) (h5 : dp.toNatClampNeg + n.toNatClampNeg ≤ n1)
    (hframes : 1 ≤ R.frames) (hlocals : (rest.map fun v => v.category).sum + (nativeFrameWords "java/lang/System" "arraycopy" 5 + 11) ≤ R.locals) (hdg : decode cc pc = .ok (.invokestatic index, 3))
    (kk : ∀ (H1 : Heap) (locs1 : List Loc), va_P D cl (ws.set q1 (a, .inl (c1, n1, .inl (va_cpy f g sp.toNatClampNeg dp.toNatClampNeg n.toNatClampNeg)))) H1 → va_D A (ws.set q1 (a, .inl (c1, n1, .inl (va_cpy f g sp.toNatClampNeg dp.toNatClampNeg n.toNatClampNeg)))) → va_S A s.heap H1 locs1 → W p l e R s m args below meth c H1 locs1 cells slots Q (F0 m (pc + 3) ls rest)) : W p l e R s m args below meth c H locs cells slots Q (F0 m pc ls (.int n :: .int dp :: .ref a :: .int sp :: .ref b0 :: rest)) := by
  have nn : ∀ z : Int32, ¬ z < 0 → z.toInt = (z.toNatClampNeg : Int) := by
    intro z hz
    have hz0 : (0 : Int) ≤ z.toInt := by
      have := Int32.not_lt.mp hz
      simpa using Int32.le_iff_toInt_le.mp this
    show z.toInt = ((z.toInt.toNat : Nat) : Int)
    omega
  intro T hT X
  obtain ⟨scr, hs1, hs2, hs3, hs4, -, hs5, hbA⟩ := hX
  have hs5 : ∀ j : Nat, j < n0 → scr.slots[j]? = some (.int (f j)) := fun j hj => by rw [hs5 j hj, hfv]
  have hbl : b0 < s.heap.size := (Array.getElem?_eq_some_iff.mp hs1).1
  have hc0 : H[b0]? = some scr := by rw [hS.2.1 b0 hbl hbA]; exact hs1
  have hc1 : H[a]? = some (vp_cell c1 (n1, .inl g)) := hP q1 _ ha1
  obtain ⟨hs6, k0, hk0, cm0, hkk0⟩ := hs2
  obtain ⟨-, k1, hk1, cm1, hkk1⟩ := (hK.2 t1 _ ht1).1 n1 (fun j => .int (g j))
  obtain ⟨vm', X', step⟩ := X.arraycopy hexec hown hlink hnat hstat hini (src := b0) (dst := a) (cs := scr) (cd := vp_cell c1 (n1, .inl g)) (srcPos := sp) (destPos := dp) (n := n) (by rw [hT]; exact hc0) (by rw [hT]; exact hc1)
    hs6 (fun _ h => by cases h) hs3 (fun h => by cases h) hk0 hk1 hkk0 hkk1 (by simp [refKind]) h1 h2 h3
    (by rw [nn sp h1, nn n h3]; omega)
    (by rw [nn dp h2, nn n h3]; show ¬ _ > ((arrV c1 n1 (fun j => .int (g j))).slots.size : Int); rw [arrV_size]; omega)
    (fun vm₁ _ i hi => by
      have e : scr.slots.getD (sp.toNatClampNeg + i) .null = .int (f (sp.toNatClampNeg + i)) := by
        rw [Array.getD_eq_getD_getElem?, hs5 _ (by omega)]
        rfl
      refine ⟨?_, ?_⟩
      · rw [e]
        rfl
      · rw [e]
        exact trivial)
    (g := F0 m pc ls (.int n :: .int dp :: .ref a :: .int sp :: .ref b0 :: rest)) rfl (by rw [hml]) (rest := rest) rfl (by rw [hb]; exact hdg) hframes (by show 2 * 0 + _ + _ ≤ _; omega)
  have e1 : copied scr (vp_cell c1 (n1, .inl g)) sp dp n = vp_cell c1 (n1, .inl (va_cpy f g sp.toNatClampNeg dp.toNatClampNeg n.toNatClampNeg)) := va_copiedX (fun z => .int z) scr c1 f g hs5 h4
  rw [e1] at X' step
  have hl : a < H.size := (Array.getElem?_eq_some_iff.mp hc1).1
  have hheap : ((T.setVm vm').setCell a (vp_cell c1 (n1, .inl (va_cpy f g sp.toNatClampNeg dp.toNatClampNeg n.toNatClampNeg)))).heap = H.setIfInBounds a (vp_cell c1 (n1, .inl (va_cpy f g sp.toNatClampNeg dp.toNatClampNeg n.toNatClampNeg))) := by rw [← hT]; rfl
  have oq : ∀ q : Nat, q ≠ a → (H.setIfInBounds a (vp_cell c1 (n1, .inl (va_cpy f g sp.toNatClampNeg dp.toNatClampNeg n.toNatClampNeg))))[q]? = H[q]? := fun q hq => by simp [Array.getElem?_setIfInBounds, Ne.symm hq]
  obtain ⟨t, a1, b1⟩ := kk _ _ (hP.set hD ha1 (show (H.setIfInBounds a _)[a]? = some _ by simp [Array.getElem?_setIfInBounds, hl]) oq) (hD.set ha1) ⟨by simp; exact hS.1, fun q g1 g2 => by
      rw [oq q (fun e => g2 (by rw [e]; exact hD.2 q1 _ ha1))]
      exact hS.2.1 q g1 g2, fun q hq => by
      rcases List.mem_append.mp hq with h | h
      · exact hS.2.2 q h
      · obtain ⟨z, -, hz⟩ := List.mem_map.mp h
        rw [← hz]
        exact hD.2 q1 _ ha1⟩ _ hheap X'
  exact ⟨t, step t a1, b1⟩
end ZCT
theorem gNs_0 {U : State} (h : gNs U) : va_Nw (.methodLinkNest RX0 17 yX9_intAt "SealedModule") U := h 0 _ rfl
theorem gNs_1 {U : State} (h : gNs U) : va_Nw (.methodLinkNest RX0 34 yX9_putInt "SealedModule") U := h 1 _ rfl
theorem gNs_2 {U : State} (h : gNs U) : va_Nw (.methodLinkNest RX1 52 yX9_putInt "SealedModule") U := h 2 _ rfl
theorem gNs_3 {U : State} (h : gNs U) : va_Nw (.methodLinkNest RX2 51 yX9_alike "SealedModule") U := h 3 _ rfl
theorem gNs_4 {U : State} (h : gNs U) : va_Nw (.methodLinkNest RX2 67 yX9_longAt "SealedModule") U := h 4 _ rfl
theorem gNs_5 {U : State} (h : gNs U) : va_Nw (.methodLinkNest RX2 80 yX9_putInt "SealedModule") U := h 5 _ rfl
theorem gNs_6 {U : State} (h : gNs U) : va_Nw (.methodLinkNest RX2 83 yX9_putLong "SealedModule") U := h 6 _ rfl
theorem gNs_7 {U : State} (h : gNs U) : va_Nw (.methodLinkNest RX4 31 yX9_xorBytes "SealedModule") U := h 7 _ rfl
theorem gNs_8 {U : State} (h : gNs U) : va_Nw (.methodLinkNest RX4 45 yX9_putInt "SealedModule") U := h 8 _ rfl
theorem gNs_9 {U : State} (h : gNs U) : va_Nw (.methodLinkNest RX4 66 yX9_longAt "SealedModule") U := h 9 _ rfl
theorem gNs_10 {U : State} (h : gNs U) : va_Nw (.methodLinkNest RX4 70 yX9_putLong "SealedModule") U := h 10 _ rfl
theorem gNs_11 {U : State} (h : gNs U) : va_Nw (.methodLinkNest RX6 86 yX9_alike "SealedModule") U := h 11 _ rfl
theorem gNs_12 {U : State} (h : gNs U) : va_Nw (.methodLinkNest RX6 182 yX9_putLong "SealedModule") U := h 12 _ rfl
theorem gNs_13 {U : State} (h : gNs U) : va_Nw (.methodLinkNest RX6 214 yX9_longAt "SealedModule") U := h 13 _ rfl
theorem gNs_14 {U : State} (h : gNs U) : va_Nw (.methodLinkNest RX7 47 yX9_putInt "SealedModule") U := h 14 _ rfl
theorem gNs_15 {U : State} (h : gNs U) : va_Nw (.methodLinkNest RX9 37 yX1_init "SealedModule") U := h 15 _ rfl
theorem gNs_16 {U : State} (h : gNs U) : va_Nw (.methodLinkNest RX9 44 yX7_init "SealedModule") U := h 16 _ rfl
theorem gNs_17 {U : State} (h : gNs U) : va_Nw (.methodLinkNest RX9 54 yX0_init "SealedModule") U := h 17 _ rfl
theorem gNs_18 {U : State} (h : gNs U) : va_Nw (.methodLinkNest RX9 115 yX8_init "SealedModule") U := h 18 _ rfl
theorem gT_0 {tt : Nat → Nat} {A : Nat → Prop} {U : State} {H : Heap} (h : gT tt A U H) : va_Z RX0 "BOX" "[I" (.ref (tt 0)) A U H ∧ va_T .int (tt 0) 256 (fun j => .int (tb_BOX.getD j 0)) A U H := h 0 _ rfl
theorem gT_1 {tt : Nat → Nat} {A : Nat → Prop} {U : State} {H : Heap} (h : gT tt A U H) : va_Z RX0 "BOX_BACK" "[I" (.ref (tt 1)) A U H ∧ va_T .int (tt 1) 256 (fun j => .int (tb_BOX_BACK.getD j 0)) A U H := h 1 _ rfl
theorem gT_2 {tt : Nat → Nat} {A : Nat → Prop} {U : State} {H : Heap} (h : gT tt A U H) : va_Z RX7 "BEGINNING" "[I" (.ref (tt 2)) A U H ∧ va_T .int (tt 2) 8 (fun j => .int (tb_BEGINNING.getD j 0)) A U H := h 2 _ rfl
theorem gT_3 {tt : Nat → Nat} {A : Nat → Prop} {U : State} {H : Heap} (h : gT tt A U H) : va_Z RX7 "CONSTANTS" "[I" (.ref (tt 3)) A U H ∧ va_T .int (tt 3) 64 (fun j => .int (tb_CONSTANTS.getD j 0)) A U H := h 3 _ rfl
theorem gT_4 {tt : Nat → Nat} {A : Nat → Prop} {U : State} {H : Heap} (h : gT tt A U H) : va_Z RX6 "COUNTING_KEY" "[J" (.ref (tt 4)) A U H ∧ va_T .long (tt 4) 4 (fun j => .long (tb_COUNTING_KEY.getD j 0)) A U H := h 4 _ rfl
theorem gT_5 {tt : Nat → Nat} {A : Nat → Prop} {U : State} {H : Heap} (h : gT tt A U H) : va_Z RX6 "DOUBLED_DIGITS" "[J" (.ref (tt 5)) A U H ∧ va_T .long (tt 5) 2 (fun j => .long (tb_DOUBLED_DIGITS.getD j 0)) A U H := h 5 _ rfl
theorem gT_6 {tt : Nat → Nat} {A : Nat → Prop} {U : State} {H : Heap} (h : gT tt A U H) : va_Z RX6 "AES_128_ANSWER" "[J" (.ref (tt 6)) A U H ∧ va_T .long (tt 6) 2 (fun j => .long (tb_AES_128_ANSWER.getD j 0)) A U H := h 6 _ rfl
theorem gT_7 {tt : Nat → Nat} {A : Nat → Prop} {U : State} {H : Heap} (h : gT tt A U H) : va_Z RX6 "AES_256_ANSWER" "[J" (.ref (tt 7)) A U H ∧ va_T .long (tt 7) 2 (fun j => .long (tb_AES_256_ANSWER.getD j 0)) A U H := h 7 _ rfl
theorem gT_8 {tt : Nat → Nat} {A : Nat → Prop} {U : State} {H : Heap} (h : gT tt A U H) : va_Z RX6 "MODES_KEY" "[J" (.ref (tt 8)) A U H ∧ va_T .long (tt 8) 2 (fun j => .long (tb_MODES_KEY.getD j 0)) A U H := h 8 _ rfl
theorem gT_9 {tt : Nat → Nat} {A : Nat → Prop} {U : State} {H : Heap} (h : gT tt A U H) : va_Z RX6 "MODES_TEXT" "[J" (.ref (tt 9)) A U H ∧ va_T .long (tt 9) 4 (fun j => .long (tb_MODES_TEXT.getD j 0)) A U H := h 9 _ rfl
theorem gT_10 {tt : Nat → Nat} {A : Nat → Prop} {U : State} {H : Heap} (h : gT tt A U H) : va_Z RX6 "CBC_ANSWER" "[J" (.ref (tt 10)) A U H ∧ va_T .long (tt 10) 4 (fun j => .long (tb_CBC_ANSWER.getD j 0)) A U H := h 10 _ rfl
theorem gT_11 {tt : Nat → Nat} {A : Nat → Prop} {U : State} {H : Heap} (h : gT tt A U H) : va_Z RX6 "CTR_START" "[J" (.ref (tt 11)) A U H ∧ va_T .long (tt 11) 2 (fun j => .long (tb_CTR_START.getD j 0)) A U H := h 11 _ rfl
theorem gT_12 {tt : Nat → Nat} {A : Nat → Prop} {U : State} {H : Heap} (h : gT tt A U H) : va_Z RX6 "CTR_ANSWER" "[J" (.ref (tt 12)) A U H ∧ va_T .long (tt 12) 4 (fun j => .long (tb_CTR_ANSWER.getD j 0)) A U H := h 12 _ rfl
theorem gT_13 {tt : Nat → Nat} {A : Nat → Prop} {U : State} {H : Heap} (h : gT tt A U H) : va_Z RX6 "ZEROS" "[J" (.ref (tt 13)) A U H ∧ va_T .long (tt 13) 2 (fun j => .long (tb_ZEROS.getD j 0)) A U H := h 13 _ rfl
theorem gT_14 {tt : Nat → Nat} {A : Nat → Prop} {U : State} {H : Heap} (h : gT tt A U H) : va_Z RX6 "GCM_ANSWER" "[J" (.ref (tt 14)) A U H ∧ va_T .long (tt 14) 4 (fun j => .long (tb_GCM_ANSWER.getD j 0)) A U H := h 14 _ rfl
theorem gT_15 {tt : Nat → Nat} {A : Nat → Prop} {U : State} {H : Heap} (h : gT tt A U H) : va_Z RX6 "CMAC_OF_NOTHING" "[J" (.ref (tt 15)) A U H ∧ va_T .long (tt 15) 2 (fun j => .long (tb_CMAC_OF_NOTHING.getD j 0)) A U H := h 15 _ rfl
theorem gT_16 {tt : Nat → Nat} {A : Nat → Prop} {U : State} {H : Heap} (h : gT tt A U H) : va_Z RX6 "CMAC_OF_BLOCK" "[J" (.ref (tt 16)) A U H ∧ va_T .long (tt 16) 2 (fun j => .long (tb_CMAC_OF_BLOCK.getD j 0)) A U H := h 16 _ rfl
theorem gT_17 {tt : Nat → Nat} {A : Nat → Prop} {U : State} {H : Heap} (h : gT tt A U H) : va_Z RX6 "ABC" "[J" (.ref (tt 17)) A U H ∧ va_T .long (tt 17) 1 (fun j => .long (tb_ABC.getD j 0)) A U H := h 17 _ rfl
theorem gT_18 {tt : Nat → Nat} {A : Nat → Prop} {U : State} {H : Heap} (h : gT tt A U H) : va_Z RX6 "ABC_DIGEST" "[J" (.ref (tt 18)) A U H ∧ va_T .long (tt 18) 4 (fun j => .long (tb_ABC_DIGEST.getD j 0)) A U H := h 18 _ rfl
theorem gT_19 {tt : Nat → Nat} {A : Nat → Prop} {U : State} {H : Heap} (h : gT tt A U H) : va_Z RX6 "JEFE" "[J" (.ref (tt 19)) A U H ∧ va_T .long (tt 19) 1 (fun j => .long (tb_JEFE.getD j 0)) A U H := h 19 _ rfl
theorem gT_20 {tt : Nat → Nat} {A : Nat → Prop} {U : State} {H : Heap} (h : gT tt A U H) : va_Z RX6 "WHAT_DO_YA_WANT" "[J" (.ref (tt 20)) A U H ∧ va_T .long (tt 20) 4 (fun j => .long (tb_WHAT_DO_YA_WANT.getD j 0)) A U H := h 20 _ rfl
theorem gT_21 {tt : Nat → Nat} {A : Nat → Prop} {U : State} {H : Heap} (h : gT tt A U H) : va_Z RX6 "HMAC_ANSWER" "[J" (.ref (tt 21)) A U H ∧ va_T .long (tt 21) 4 (fun j => .long (tb_HMAC_ANSWER.getD j 0)) A U H := h 21 _ rfl
theorem gT_22 {tt : Nat → Nat} {A : Nat → Prop} {U : State} {H : Heap} (h : gT tt A U H) : va_Z RX6 "WRAP_ANSWER" "[J" (.ref (tt 22)) A U H ∧ va_T .long (tt 22) 3 (fun j => .long (tb_WRAP_ANSWER.getD j 0)) A U H := h 22 _ rfl
/-- the cells at the places is become xs -/
def zset (ws : va_W) : List Nat → va_W → va_W
  | [], _ => ws
  | i :: is, xs => match xs with
    | [] => ws
    | x :: xs => zset (ws.set i x) is xs
theorem zset_out : ∀ (is : List Nat) (xs ws : va_W) (k : Nat), k ∉ is → (zset ws is xs)[k]? = ws[k]?
  | [], _, _, _, _ => by simp only [zset]
  | _ :: _, [], _, _, _ => by simp only [zset]
  | i :: is, x :: xs, ws, k, h => by
    show (zset (ws.set i x) is xs)[k]? = ws[k]?
    rw [zset_out is xs (ws.set i x) k (fun q => h (List.mem_cons_of_mem _ q)), List.getElem?_set_ne (fun q => h (by rw [q]; exact List.mem_cons_self))]
theorem zset_in : ∀ (is : List Nat) (xs ws : va_W) (k : Nat) (q : Nat × va_E), va_nd is = true → k ∈ is → (zset ws is xs)[k]? = some q → (∃ j : Nat, xs[j]? = some q ∧ is[j]? = some k) ∨ (xs.length ≤ is.idxOf k ∧ ws[k]? = some q)
  | [], _, _, _, _, _, h, _ => nomatch h
  | i :: is, [], ws, k, q, _, _, hq => Or.inr ⟨Nat.zero_le _, hq⟩
  | i :: is, x :: xs, ws, k, q, hn, hk, hq => by
    have hq : (zset (ws.set i x) is xs)[k]? = some q := hq
    have hnd : i ∉ is ∧ va_nd is = true := by
      have h := hn
      simp only [va_nd, Bool.and_eq_true] at h
      refine ⟨?_, h.2⟩
      intro hi
      have h1 := h.1
      simp [hi] at h1
    by_cases hki : k = i
    · subst hki
      rw [zset_out is xs _ k hnd.1] at hq
      by_cases hl : k < ws.length
      · rw [List.getElem?_set_self hl] at hq
        exact Or.inl ⟨0, hq, rfl⟩
      · rw [List.getElem?_eq_none (by rw [List.length_set]; omega)] at hq
        cases hq
    · have hk2 : k ∈ is := by
        rcases List.mem_cons.mp hk with h | h
        · exact absurd h hki
        · exact h
      rcases zset_in is xs (ws.set i x) k q hnd.2 hk2 hq with ⟨j, h1, h2⟩ | ⟨h1, h2⟩
      · exact Or.inl ⟨j + 1, h1, h2⟩
      · rw [List.getElem?_set_ne (Ne.symm hki)] at h2
        refine Or.inr ⟨?_, h2⟩
        have e : (i :: is).idxOf k = is.idxOf k + 1 := by
          rw [List.idxOf_cons]
          have : (i == k) = false := by simp [Ne.symm hki]
          simp [this]
        rw [e]
        simpa using h1
section ZC2
variable {p : Program} {l : Launch} {e : Env} {R : Room} {s : State} {m : MethodId} {args : Array Value} {below : List Frame} {meth : Method} {c : Code} {H : Heap} {locs : List Loc} {cells slots : Nat} {Q : State → Prop}
variable {pc : Nat} {ls : Array Slot} {rest st0 : List Value} {D : va_G} {A : Nat → Prop} {a : Array Value}
theorem zjoin {wc w1 ws : va_W} {H1 : Heap} (hP : va_P D vwCl ws H) (hD : va_D A ws) (isC : List Nat) (hC : isC.map (fun i => ws[i]?) = wc.map some) (hn : va_nd isC = true) (hadr : w1.map Prod.fst = wc.map Prod.fst)
    (hk1 : ∀ q : Nat, q < H.size → ¬ va_A wc H.size q → H1[q]? = H[q]?) (hP1 : va_P D vwCl w1 H1) : va_P D vwCl (zset ws isC w1) H1 ∧ va_D A (zset ws isC w1) := by
  have hlen : isC.length = wc.length := by have := congrArg List.length hC; simpa using this
  have hlen1 : w1.length = wc.length := by have := congrArg List.length hadr; simpa using this
  have hcw : ∀ (j i : Nat), isC[j]? = some i → ∃ qc, wc[j]? = some qc ∧ ws[i]? = some qc := by
    intro j i hj
    have h1 : (isC.map (fun i => ws[i]?))[j]? = (wc.map some)[j]? := by rw [hC]
    rw [List.getElem?_map, List.getElem?_map, hj] at h1
    cases hw : wc[j]? with
    | none => rw [hw] at h1; simp at h1
    | some qc => rw [hw] at h1; exact ⟨qc, rfl, by simpa using h1⟩
  have hcase : ∀ (k : Nat) (q : Nat × va_E), (zset ws isC w1)[k]? = some q → (∃ (j : Nat) (qc : Nat × va_E), w1[j]? = some q ∧ isC[j]? = some k ∧ wc[j]? = some qc ∧ ws[k]? = some qc ∧ q.1 = qc.1) ∨ (k ∉ isC ∧ ws[k]? = some q) := by
    intro k q hq
    by_cases hk : k ∈ isC
    · rcases zset_in isC w1 ws k q hn hk hq with ⟨j, h1, h2⟩ | ⟨h1, h2⟩
      · obtain ⟨qc, h3, h4⟩ := hcw j k h2
        refine Or.inl ⟨j, qc, h1, h2, h3, h4, ?_⟩
        have h5 : (w1.map Prod.fst)[j]? = (wc.map Prod.fst)[j]? := by rw [hadr]
        rw [List.getElem?_map, List.getElem?_map, h1, h3] at h5
        simpa using h5
      · exfalso
        have := List.idxOf_lt_length_iff.mpr hk
        omega
    · rw [zset_out isC w1 ws k hk] at hq
      exact Or.inr ⟨hk, hq⟩
  constructor
  · intro k q hq
    rcases hcase k q hq with ⟨j, qc, h1, -, -, -, -⟩ | ⟨hk, h1⟩
    · exact hP1 j q h1
    · refine (hP k q h1).kept (hk1 q.1 (hP k q h1).lt ?_)
      rintro (⟨j, e9, h9⟩ | h9)
      · have hj : j < isC.length := by rw [hlen]; exact (List.getElem?_eq_some_iff.mp h9).1
        obtain ⟨i, hi⟩ : ∃ i, isC[j]? = some i := ⟨isC[j], List.getElem?_eq_getElem hj⟩
        obtain ⟨qc, h3, h4⟩ := hcw j i hi
        rw [h9] at h3
        cases h3
        have := hD.1 k i q _ h1 h4 rfl
        subst this
        exact hk (List.mem_of_getElem? hi)
      · exact absurd (hP k q h1).lt (by omega)
  · have hadr2 : ∀ (k : Nat) (q : Nat × va_E), (zset ws isC w1)[k]? = some q → ∃ q', ws[k]? = some q' ∧ q'.1 = q.1 := by
      intro k q hq
      rcases hcase k q hq with ⟨j, qc, -, -, -, h4, h5⟩ | ⟨hk, h1⟩
      · exact ⟨qc, h4, h5.symm⟩
      · exact ⟨q, h1, rfl⟩
    refine ⟨fun i j x y hi hj hxy => ?_, fun k q hq => ?_⟩
    · obtain ⟨x', h1, h2⟩ := hadr2 i x hi
      obtain ⟨y', h3, h4⟩ := hadr2 j y hj
      exact hD.1 i j x' y' h1 h3 (by rw [h2, h4, hxy])
    · obtain ⟨q', h1, h2⟩ := hadr2 k q hq
      rw [← h2]
      exact hD.2 k q' h1
theorem zcm2 {rv : Option Value} {wc w1 ws : va_W} {H0 : Heap} (hr : va_Run p l e R s m args below meth c H locs cells slots 0 0 (F0 m pc ls st0) rest (zQ D rv w1 (va_A wc H.size) a) (va_A wc H.size))
    (hS : va_S A H0 H locs) (hP : va_P D vwCl ws H) (hD : va_D A ws) (hF : ∀ q, va_A wc H.size q → A q) (isC : List Nat) (hC : isC.map (fun i => ws[i]?) = wc.map some) (hn : va_nd isC = true) (hadr : w1.map Prod.fst = wc.map Prod.fst)
    (kk : ∀ (H1 : Heap) (locs1 : List Loc), va_P D vwCl (zset ws isC w1) H1 → va_D A (zset ws isC w1) → va_S A H0 H1 locs1 → W p l e R s m args below meth c H1 locs1 cells slots Q (F0 m (pc + 3) ls (rv.toList ++ rest))) : W p l e R s m args below meth c H locs cells slots Q (F0 m pc ls st0) := by
  intro T hT X
  obtain ⟨v, st₀, t, T', L, h0, X', hL, e1, e2, ⟨hv, ⟨hP1, hD1⟩, hz, hk⟩, st⟩ := hr T hT X
  cases hv
  rw [h0] at hz hk
  rw [← e1] at hP1 hz
  have hk1 : ∀ q : Nat, q < H.size → ¬ va_A wc H.size q → T'.heap[q]? = H[q]? := fun q h1 h2 => by rw [e1]; exact hk q h1 h2
  obtain ⟨hPj, hDj⟩ := zjoin hP hD isC hC hn hadr hk1 hP1
  obtain ⟨t2, a1, b1⟩ := kk T'.heap (locs ++ L) hPj hDj ⟨Nat.le_trans hS.1 hz, fun q h1 h2 => by rw [hk1 q (Nat.lt_of_lt_of_le h1 hS.1) (fun z => h2 (hF q z))]; exact hS.2.1 q h1 h2, fun q hq => by
      rcases List.mem_append.mp hq with h | h
      · exact hS.2.2 q h
      · exact hF _ (hL q h)⟩ T' rfl X'
  exact ⟨t2, st t2 a1, b1⟩
end ZC2
/-! constructors: cells that come -/
abbrev zQI (D : va_G) (B : va_W → Prop) (A : Nat → Prop) : Array Value → State → Outcome → State → Prop := fun _ st o t => o = .returned none ∧ (∃ w1 : va_W, B w1 ∧ va_P D vwCl w1 t.heap ∧ va_D A w1) ∧ va_F A st t
section ZN
variable {p : Program} {l : Launch} {e : Env} {R : Room} {s : State} {m : MethodId} {args : Array Value} {below : List Frame} {meth : Method} {c : Code} {H : Heap} {locs : List Loc} {cells slots : Nat} {Q : State → Prop}
variable {cc : ByteArray} {pc : Nat} {ls : Array Slot} {rest st0 : List Value} {D : va_G} {cy : Nat → ClassId} {A : Nat → Prop} {a : Array Value} {ws : va_W} {H0 : Heap}
theorem zcx {B : va_W → Prop} {wc wr : va_W} {mc ms : Nat} (hr : va_Run p l e R s m args below meth c H locs cells slots mc ms (F0 m pc ls st0) rest (zQI D B (va_A wc H.size) a) (va_A wc H.size))
    (hS : va_S A H0 H locs) (hP : va_P D vwCl ws H) (hD : va_D A ws) (hF : ∀ q, va_A wc H.size q → A q) (isC isR : List Nat) (hC : isC.map (fun i => ws[i]?) = wc.map some) (hR : isR.map (fun i => ws[i]?) = wr.map some) (hn : va_nd isR = true) (hdis : ∀ i ∈ isR, i ∉ isC)
    (kk : ∀ (w1 : va_W) (H1 : Heap) (locs1 : List Loc), B w1 → va_P D vwCl (wr ++ w1) H1 → va_D A (wr ++ w1) → va_S A H0 H1 locs1 → W p l e R s m args below meth c H1 locs1 (cells + mc) (slots + ms) Q (F0 m (pc + 3) ls rest)) : W p l e R s m args below meth c H locs cells slots Q (F0 m pc ls st0) := by
  intro T hT X
  obtain ⟨v, st₀, t, T', L, h0, X', hL, e1, e2, ⟨hv, ⟨w1, hB, hP1, hD1⟩, hz, hk⟩, st⟩ := hr T hT X
  cases hv
  rw [h0] at hz hk
  rw [← e1] at hP1 hz
  have hk1 : ∀ q : Nat, q < H.size → ¬ va_A wc H.size q → T'.heap[q]? = H[q]? := fun q h1 h2 => by rw [e1]; exact hk q h1 h2
  obtain ⟨hPj, hDj⟩ := va_join (wr := wr) (w1 := w1) hP hD isC isR hC hR hn hdis hk1 hF hP1 hD1
  obtain ⟨t2, a1, b1⟩ := kk w1 T'.heap (locs ++ L) hB hPj hDj ⟨Nat.le_trans hS.1 hz, fun q h1 h2 => by rw [hk1 q (Nat.lt_of_lt_of_le h1 hS.1) (fun z => h2 (hF q z))]; exact hS.2.1 q h1 h2, fun q hq => by
      rcases List.mem_append.mp hq with h | h
      · exact hS.2.2 q h
      · exact hF _ (hL q h)⟩ T' rfl X'
  exact ⟨t2, st t2 a1, b1⟩
theorem znewI (hexec : p.tables.exec = Jvm.exec) (hb : c.code = cc) (harr : (Cond.arrayClass .int).before args s = true) (hK : va_K D vwCl (gTys cy) s) (hP : va_P D vwCl ws H) (hD : va_D A ws) (hS : va_S A H0 H locs) (hA : ∀ q, H0.size ≤ q → A q)
    {n : Int32} {N' : Nat} (hn : ¬ n < 0) (hN : n.toNatClampNeg = N') (hbytes : N' * componentBytes .int ≤ 536870912) (hcells : cells + 1 ≤ R.cells) (hslots : slots + N' ≤ R.slots) (hdg : decode cc pc = .ok (.newarray .int, 2))
    (kk : ∀ (q : Nat) (H1 : Heap), va_P D vwCl (ws ++ [(q, .inl (cy 1, N', .inl (fun _ => 0)))]) H1 → va_D A (ws ++ [(q, .inl (cy 1, N', .inl (fun _ => 0)))]) → va_S A H0 H1 locs → W p l e R s m args below meth c H1 locs (cells + 1) (slots + N') Q (F0 m (pc + 2) ls (.ref q :: rest))) : W p l e R s m args below meth c H locs cells slots Q (F0 m pc ls (.int n :: rest)) := by
  refine va_newa (atype := .int) (ty := .int) hexec hb harr rfl hK hP hD hS hA (a0 := (N', .inl (fun _ => 0))) (fun _ => rfl) hn hN hbytes hcells hslots hdg (fun q cA H1 hK1 hP1 hD1 hS1 => ?_)
  have e1 : s.vm.findClass _ = some cA := (hK1.2 5 (cA, .int) rfl).2
  have e2 : s.vm.findClass _ = some (cy 1) := (hK.2 1 (cy 1, .int) rfl).2
  have e : cA = cy 1 := Option.some.inj (e1.symm.trans e2)
  subst e
  exact kk q H1 hP1 hD1 hS1
theorem znewB (hexec : p.tables.exec = Jvm.exec) (hb : c.code = cc) (harr : (Cond.arrayClass .byte).before args s = true) (hK : va_K D vwCl (gTys cy) s) (hP : va_P D vwCl ws H) (hD : va_D A ws) (hS : va_S A H0 H locs) (hA : ∀ q, H0.size ≤ q → A q)
    {n : Int32} {N' : Nat} (hn : ¬ n < 0) (hN : n.toNatClampNeg = N') (hbytes : N' * componentBytes .byte ≤ 536870912) (hcells : cells + 1 ≤ R.cells) (hslots : slots + N' ≤ R.slots) (hdg : decode cc pc = .ok (.newarray .byte, 2))
    (kk : ∀ (q : Nat) (H1 : Heap), va_P D vwCl (ws ++ [(q, .inl (cy 0, N', .inl (fun _ => 0)))]) H1 → va_D A (ws ++ [(q, .inl (cy 0, N', .inl (fun _ => 0)))]) → va_S A H0 H1 locs → W p l e R s m args below meth c H1 locs (cells + 1) (slots + N') Q (F0 m (pc + 2) ls (.ref q :: rest))) : W p l e R s m args below meth c H locs cells slots Q (F0 m pc ls (.int n :: rest)) := by
  refine va_newa (atype := .byte) (ty := .byte) hexec hb harr rfl hK hP hD hS hA (a0 := (N', .inl (fun _ => 0))) (fun _ => rfl) hn hN hbytes hcells hslots hdg (fun q cA H1 hK1 hP1 hD1 hS1 => ?_)
  have e1 : s.vm.findClass _ = some cA := (hK1.2 5 (cA, .byte) rfl).2
  have e2 : s.vm.findClass _ = some (cy 0) := (hK.2 0 (cy 0, .byte) rfl).2
  have e : cA = cy 0 := Option.some.inj (e1.symm.trans e2)
  subst e
  exact kk q H1 hP1 hD1 hS1
theorem znewJ (hexec : p.tables.exec = Jvm.exec) (hb : c.code = cc) (harr : (Cond.arrayClass .long).before args s = true) (hK : va_K D vwCl (gTys cy) s) (hP : va_P D vwCl ws H) (hD : va_D A ws) (hS : va_S A H0 H locs) (hA : ∀ q, H0.size ≤ q → A q)
    {n : Int32} {N' : Nat} (hn : ¬ n < 0) (hN : n.toNatClampNeg = N') (hbytes : N' * componentBytes .long ≤ 536870912) (hcells : cells + 1 ≤ R.cells) (hslots : slots + N' ≤ R.slots) (hdg : decode cc pc = .ok (.newarray .long, 2))
    (kk : ∀ (q : Nat) (H1 : Heap), va_P D vwCl (ws ++ [(q, .inl (cy 2, N', .inr (.inl (fun _ => 0))))]) H1 → va_D A (ws ++ [(q, .inl (cy 2, N', .inr (.inl (fun _ => 0))))]) → va_S A H0 H1 locs → W p l e R s m args below meth c H1 locs (cells + 1) (slots + N') Q (F0 m (pc + 2) ls (.ref q :: rest))) : W p l e R s m args below meth c H locs cells slots Q (F0 m pc ls (.int n :: rest)) := by
  refine va_newa (atype := .long) (ty := .long) hexec hb harr rfl hK hP hD hS hA (a0 := (N', .inr (.inl (fun _ => 0)))) (fun _ => rfl) hn hN hbytes hcells hslots hdg (fun q cA H1 hK1 hP1 hD1 hS1 => ?_)
  have e1 : s.vm.findClass _ = some cA := (hK1.2 5 (cA, .long) rfl).2
  have e2 : s.vm.findClass _ = some (cy 2) := (hK.2 2 (cy 2, .long) rfl).2
  have e : cA = cy 2 := Option.some.inj (e1.symm.trans e2)
  subst e
  exact kk q H1 hP1 hD1 hS1
theorem znewZ (hexec : p.tables.exec = Jvm.exec) (hb : c.code = cc) (harr : (Cond.arrayClass .boolean).before args s = true) (hK : va_K D vwCl (gTys cy) s) (hP : va_P D vwCl ws H) (hD : va_D A ws) (hS : va_S A H0 H locs) (hA : ∀ q, H0.size ≤ q → A q)
    {n : Int32} {N' : Nat} (hn : ¬ n < 0) (hN : n.toNatClampNeg = N') (hbytes : N' * componentBytes .boolean ≤ 536870912) (hcells : cells + 1 ≤ R.cells) (hslots : slots + N' ≤ R.slots) (hdg : decode cc pc = .ok (.newarray .boolean, 2))
    (kk : ∀ (q : Nat) (H1 : Heap), va_P D vwCl (ws ++ [(q, .inl (cy 3, N', .inl (fun _ => 0)))]) H1 → va_D A (ws ++ [(q, .inl (cy 3, N', .inl (fun _ => 0)))]) → va_S A H0 H1 locs → W p l e R s m args below meth c H1 locs (cells + 1) (slots + N') Q (F0 m (pc + 2) ls (.ref q :: rest))) : W p l e R s m args below meth c H locs cells slots Q (F0 m pc ls (.int n :: rest)) := by
  refine va_newa (atype := .boolean) (ty := .boolean) hexec hb harr rfl hK hP hD hS hA (a0 := (N', .inl (fun _ => 0))) (fun _ => rfl) hn hN hbytes hcells hslots hdg (fun q cA H1 hK1 hP1 hD1 hS1 => ?_)
  have e1 : s.vm.findClass _ = some cA := (hK1.2 5 (cA, .boolean) rfl).2
  have e2 : s.vm.findClass _ = some (cy 3) := (hK.2 3 (cy 3, .boolean) rfl).2
  have e : cA = cy 3 := Option.some.inj (e1.symm.trans e2)
  subst e
  exact kk q H1 hP1 hD1 hS1
theorem znewQ (hexec : p.tables.exec = Jvm.exec) (hb : c.code = cc) {own : String} {index : Nat} (hown : s.vm.findClass own = some m.cls) (hclink : (Cond.classLink own index RX8).before args s = true) (hover : va_AO RX8 s) (hK : va_K D vwCl (gTys cy) s) (hP : va_P D vwCl ws H) (hD : va_D A ws) (hS : va_S A H0 H locs) (hA : ∀ q, H0.size ≤ q → A q)
    {n : Int32} {N' : Nat} (hn : ¬ n < 0) (hN : n.toNatClampNeg = N') (hbytes : N' * 4 ≤ 536870912) (hcells : cells + 1 ≤ R.cells) (hslots : slots + N' ≤ R.slots) (hdg : decode cc pc = .ok (.anewarray index, 3))
    (kk : ∀ (q : Nat) (H1 : Heap), va_P D vwCl (ws ++ [(q, .inl (cy 4, N', .inr (.inr (.inr (.inr (fun _ => none))))))]) H1 → va_D A (ws ++ [(q, .inl (cy 4, N', .inr (.inr (.inr (.inr (fun _ => none))))))]) → va_S A H0 H1 locs → W p l e R s m args below meth c H1 locs (cells + 1) (slots + N') Q (F0 m (pc + 3) ls (.ref q :: rest))) : W p l e R s m args below meth c H locs cells slots Q (F0 m pc ls (.int n :: rest)) := by
  refine va_newq hexec hb hown hclink hover hK hP hD hS hA hn hN hbytes hcells hslots hdg (fun q cA H1 hK1 hP1 hD1 hS1 => ?_)
  obtain ⟨_, _, _, _, _, e1⟩ := (hK1.2 5 (cA, .object RX8) rfl).2
  obtain ⟨_, _, _, _, _, e2⟩ := (hK.2 4 (cy 4, .object RX8) rfl).2
  have e : cA = cy 4 := Option.some.inj (e1.symm.trans e2)
  subst e
  exact kk q H1 hP1 hD1 hS1
end ZN
/-! slots and keys as one opaque part behind the other cells -/
def zpl (cA : ClassId) (ho hk : Nat → Nat) (kd ln us ro ue : Nat → Int32) (ky : Nat → Nat → Int32) : va_W := zpO ho hk kd ln us ro ue ++ zpK cA hk ky
section ZL
variable {X : va_W} {ho hk : Nat → Nat} {kd ln us ro ue : Nat → Int32} {ky ky2 : Nat → Nat → Int32} {cA : ClassId} {n j : Nat} {v : Int32} {f : Nat → Int32} {kd2 ln2 us2 ro2 ue2 : Nat → Int32}
theorem zpl_adr : (zpl cA ho hk kd2 ln2 us2 ro2 ue2 ky2).map Prod.fst = (zpl cA ho hk kd ln us ro ue ky).map Prod.fst := rfl
theorem zplO_get (hn : X.length = n) (hj : j < 16) : (X ++ zpl cA ho hk kd ln us ro ue ky)[n + j]? = some (ho j, .inr (10, [.ref (hk j), .int (kd j), .int (ln j), .int (us j), .int (ro j), .int (ue j)])) := by
  unfold zpl
  rw [← List.append_assoc]
  exact zpO_getK hn hj
theorem zplK_get (hn : X.length = n) (hj : j < 16) : (X ++ zpl cA ho hk kd ln us ro ue ky)[n + 16 + j]? = some (hk j, .inl (cA, 64, .inl (ky j))) := by
  unfold zpl
  rw [← List.append_assoc]
  exact zpK_get hn hj
theorem zplO_set_kind (hn : X.length = n) (hj : j < 16) : (X ++ zpl cA ho hk kd ln us ro ue ky).set (n + j) (ho j, .inr (10, [.ref (hk j), .int v, .int (ln j), .int (us j), .int (ro j), .int (ue j)])) = X ++ zpl cA ho hk (upd kd j v) ln us ro ue ky := by
  unfold zpl
  rw [← List.append_assoc, zpO_setK_kind hn hj, List.append_assoc]
theorem zplO_set_length (hn : X.length = n) (hj : j < 16) : (X ++ zpl cA ho hk kd ln us ro ue ky).set (n + j) (ho j, .inr (10, [.ref (hk j), .int (kd j), .int v, .int (us j), .int (ro j), .int (ue j)])) = X ++ zpl cA ho hk kd (upd ln j v) us ro ue ky := by
  unfold zpl
  rw [← List.append_assoc, zpO_setK_length hn hj, List.append_assoc]
theorem zplO_set_usage (hn : X.length = n) (hj : j < 16) : (X ++ zpl cA ho hk kd ln us ro ue ky).set (n + j) (ho j, .inr (10, [.ref (hk j), .int (kd j), .int (ln j), .int v, .int (ro j), .int (ue j)])) = X ++ zpl cA ho hk kd ln (upd us j v) ro ue ky := by
  unfold zpl
  rw [← List.append_assoc, zpO_setK_usage hn hj, List.append_assoc]
theorem zplO_set_role (hn : X.length = n) (hj : j < 16) : (X ++ zpl cA ho hk kd ln us ro ue ky).set (n + j) (ho j, .inr (10, [.ref (hk j), .int (kd j), .int (ln j), .int (us j), .int v, .int (ue j)])) = X ++ zpl cA ho hk kd ln us (upd ro j v) ue ky := by
  unfold zpl
  rw [← List.append_assoc, zpO_setK_role hn hj, List.append_assoc]
theorem zplO_set_uses (hn : X.length = n) (hj : j < 16) : (X ++ zpl cA ho hk kd ln us ro ue ky).set (n + j) (ho j, .inr (10, [.ref (hk j), .int (kd j), .int (ln j), .int (us j), .int (ro j), .int v])) = X ++ zpl cA ho hk kd ln us ro (upd ue j v) ky := by
  unfold zpl
  rw [← List.append_assoc, zpO_setK_uses hn hj, List.append_assoc]
theorem zplK_set (hn : X.length = n) (hj : j < 16) : (X ++ zpl cA ho hk kd ln us ro ue ky).set (n + 16 + j) (hk j, .inl (cA, 64, .inl f)) = X ++ zpl cA ho hk kd ln us ro ue (va_up ky j f) := by
  unfold zpl
  rw [← List.append_assoc, zpK_set hn hj, List.append_assoc]
end ZL
section ZC3
variable {p : Program} {l : Launch} {e : Env} {R : Room} {s : State} {m : MethodId} {args : Array Value} {below : List Frame} {meth : Method} {c : Code} {H : Heap} {locs : List Loc} {cells slots : Nat} {Q : State → Prop}
variable {pc : Nat} {ls : Array Slot} {rest st0 : List Value} {D : va_G} {A : Nat → Prop} {a : Array Value}
theorem zset_app : ∀ (is : List Nat) (xs X pl : va_W), (∀ i ∈ is, i < X.length) → zset (X ++ pl) is xs = zset X is xs ++ pl
  | [], _, _, _, _ => by simp only [zset]
  | _ :: _, [], _, _, _ => by simp only [zset]
  | i :: is, x :: xs, X, pl, h => by
    show zset ((X ++ pl).set i x) is xs = zset (X.set i x) is xs ++ pl
    rw [List.set_append_left _ _ (h i List.mem_cons_self)]
    exact zset_app is xs (X.set i x) pl (fun j hj => by rw [List.length_set]; exact h j (List.mem_cons_of_mem _ hj))
theorem zset_len : ∀ (is : List Nat) (xs X : va_W), (zset X is xs).length = X.length
  | [], _, _ => by simp only [zset]
  | _ :: _, [], _ => by simp only [zset]
  | i :: is, x :: xs, X => by
    show (zset (X.set i x) is xs).length = X.length
    rw [zset_len is xs (X.set i x), List.length_set]
theorem zlt_of {isC : List Nat} {X : va_W} (h : isC.all (fun i => Nat.blt i X.length) = true) : ∀ i ∈ isC, i < X.length := fun i hi => by
  have := List.all_eq_true.mp h i hi
  simpa [Nat.blt_eq] using this
theorem zcmQ {rv : Option Value} {wc w1 X pl : va_W} {H0 : Heap} (hr : va_Run p l e R s m args below meth c H locs cells slots 0 0 (F0 m pc ls st0) rest (zQ D rv w1 (va_A wc H.size) a) (va_A wc H.size))
    (hS : va_S A H0 H locs) (hP : va_P D vwCl (X ++ pl) H) (hD : va_D A (X ++ pl)) (hF : ∀ q, va_A wc H.size q → A q) (isC : List Nat) (hC : isC.map (fun i => (X ++ pl)[i]?) = wc.map some) (hn : va_nd isC = true) (hlt0 : isC.all (fun i => Nat.blt i X.length) = true) (hadr : w1.map Prod.fst = wc.map Prod.fst)
    (kk : ∀ (H1 : Heap) (locs1 : List Loc), va_P D vwCl (zset X isC w1 ++ pl) H1 → va_D A (zset X isC w1 ++ pl) → va_S A H0 H1 locs1 → W p l e R s m args below meth c H1 locs1 cells slots Q (F0 m (pc + 3) ls (rv.toList ++ rest))) : W p l e R s m args below meth c H locs cells slots Q (F0 m pc ls st0) := by
  have hlt := zlt_of hlt0
  refine zcm2 hr hS hP hD hF isC hC hn hadr (fun H1 locs1 h1 h2 h3 => ?_)
  rw [zset_app isC w1 X pl hlt] at h1 h2
  exact kk H1 locs1 h1 h2 h3
/-- the callee has the whole pool and some of the other cells -/
theorem zcmP {rv : Option Value} {cx x1 X pl pl1 : va_W} {H0 : Heap} (hr : va_Run p l e R s m args below meth c H locs cells slots 0 0 (F0 m pc ls st0) rest (zQ D rv (x1 ++ pl1) (va_A (cx ++ pl) H.size) a) (va_A (cx ++ pl) H.size))
    (hS : va_S A H0 H locs) (hP : va_P D vwCl (X ++ pl) H) (hD : va_D A (X ++ pl)) (hF : ∀ q, va_A (cx ++ pl) H.size q → A q) (isC : List Nat) (hC : isC.map (fun i => X[i]?) = cx.map some) (hn : va_nd isC = true) (hlt0 : isC.all (fun i => Nat.blt i X.length) = true) (hadr : x1.map Prod.fst = cx.map Prod.fst) (hpl : pl1.map Prod.fst = pl.map Prod.fst)
    (kk : ∀ (H1 : Heap) (locs1 : List Loc), va_P D vwCl (zset X isC x1 ++ pl1) H1 → va_D A (zset X isC x1 ++ pl1) → va_S A H0 H1 locs1 → W p l e R s m args below meth c H1 locs1 cells slots Q (F0 m (pc + 3) ls (rv.toList ++ rest))) : W p l e R s m args below meth c H locs cells slots Q (F0 m pc ls st0) := by
  have hlt := zlt_of hlt0
  have hlp : pl1.length = pl.length := by have := congrArg List.length hpl; simpa using this
  have key : ∀ (Y : va_W), pl1.length ≤ Y.length → zset (X ++ pl) (isC ++ (List.range' X.length pl.length)) (x1 ++ pl1) = zset X isC x1 ++ pl1 := by
    intro _ _
    have hx1 : x1.length = isC.length := by
      have h1 := congrArg List.length hadr
      have h2 := congrArg List.length hC
      simp at h1 h2
      omega
    have step1 : ∀ (is : List Nat) (xs ws : va_W) (is2 : List Nat) (xs2 : va_W), xs.length = is.length → zset ws (is ++ is2) (xs ++ xs2) = zset (zset ws is xs) is2 xs2 := by
      intro is
      induction is with
      | nil => intro xs ws is2 xs2 h; cases xs with
        | nil => simp only [zset, List.nil_append]
        | cons x xs => simp at h
      | cons i is ih => intro xs ws is2 xs2 h; cases xs with
        | nil => simp at h
        | cons x xs => exact ih xs (ws.set i x) is2 xs2 (by simpa using h)
    rw [step1 isC x1 (X ++ pl) _ pl1 hx1, zset_app isC x1 X pl hlt]
    have step2 : ∀ (q : va_W) (Z r : va_W), q.length = r.length → zset (Z ++ r) (List.range' Z.length r.length) q = Z ++ q := by
      intro q
      induction q with
      | nil => intro Z r h; cases r with
        | nil => simp [zset]
        | cons x r => simp at h
      | cons x q ih => intro Z r h; cases r with
        | nil => simp at h
        | cons y r =>
          show zset (Z ++ y :: r) (Z.length :: List.range' (Z.length + 1) r.length) (x :: q) = _
          show zset ((Z ++ y :: r).set Z.length x) (List.range' (Z.length + 1) r.length) q = _
          have e1 : (Z ++ y :: r).set Z.length x = (Z ++ [x]) ++ r := by simp
          have e2 : Z.length + 1 = (Z ++ [x]).length := by simp
          rw [e1, e2, ih (Z ++ [x]) r (by simpa using h)]
          simp
    rw [show X.length = (zset X isC x1).length from (zset_len isC x1 X).symm]
    exact step2 pl1 (zset X isC x1) pl hlp
  have hC2 : (isC ++ List.range' X.length pl.length).map (fun i => (X ++ pl)[i]?) = (cx ++ pl).map some := by
    rw [List.map_append, List.map_append]
    congr 1
    · rw [← hC]
      apply List.map_congr_left
      intro i hi
      rw [List.getElem?_append_left (hlt i hi)]
    · apply List.ext_getElem?
      intro k
      by_cases hk : k < pl.length
      · simp [hk]
      · simp [hk]
  have hn2 : va_nd (isC ++ List.range' X.length pl.length) = true := by
    have e : ∀ l : List Nat, va_nd l = true ↔ l.Nodup := by
      intro l
      induction l with
      | nil => simp [va_nd]
      | cons x l ih => simp [va_nd, ih]
    rw [e] at hn ⊢
    refine List.nodup_append.mpr ⟨hn, List.nodup_range' , ?_⟩
    intro x hx y hy hxy
    subst hxy
    have h1 := hlt x hx
    simp [List.mem_range'] at hy
    omega
  refine zcm2 hr hS hP hD hF (isC ++ List.range' X.length pl.length) hC2 hn2 (by rw [List.map_append, List.map_append, hadr, hpl]) (fun H1 locs1 h1 h2 h3 => ?_)
  rw [key pl1 (Nat.le_refl _)] at h1 h2
  exact kk H1 locs1 h1 h2 h3
end ZC3
/-! the same, place by place: no nest of sets -/
def zpick (w : Nat × va_E) (k : Nat) : List Nat → va_W → Nat × va_E
  | [], _ => w
  | i :: is, xs => match xs with
    | [] => w
    | x :: xs => bif Nat.beq k i then x else zpick w k is xs
def zup : Nat → va_W → List Nat → va_W → va_W
  | _, [], _, _ => []
  | k, w :: ws, is, xs => zpick w k is xs :: zup (k + 1) ws is xs
theorem zup_get : ∀ (ws : va_W) (k0 : Nat) (is : List Nat) (xs : va_W) (k : Nat), (zup k0 ws is xs)[k]? = (ws[k]?).map (fun w => zpick w (k0 + k) is xs)
  | [], _, _, _, k => by simp [zup]
  | w :: ws, k0, is, xs, 0 => by simp [zup]
  | w :: ws, k0, is, xs, k + 1 => by
    show (zup (k0 + 1) ws is xs)[k]? = (ws[k]?).map _
    rw [zup_get ws (k0 + 1) is xs k, show k0 + 1 + k = k0 + (k + 1) by omega]
theorem zpick_out : ∀ (is : List Nat) (xs : va_W) (w : Nat × va_E) (k : Nat), k ∉ is → zpick w k is xs = w
  | [], _, _, _, _ => by simp only [zpick]
  | _ :: _, [], _, _, _ => by simp only [zpick]
  | i :: is, x :: xs, w, k, h => by
    have h1 : Nat.beq k i = false := by
      cases hb : Nat.beq k i
      · rfl
      · exact absurd (Nat.eq_of_beq_eq_true hb) (fun q => h (by rw [q]; exact List.mem_cons_self))
    simp only [zpick, h1, cond_false]
    exact zpick_out is xs w k (fun q => h (List.mem_cons_of_mem _ q))
theorem zset_up : ∀ (is : List Nat) (xs ws : va_W), va_nd is = true → zset ws is xs = zup 0 ws is xs
  | [], xs, ws, _ => by
    apply List.ext_getElem?
    intro k
    rw [zup_get, zset_out [] xs ws k List.not_mem_nil]
    cases h : ws[k]? with
    | none => rfl
    | some w => simp only [Option.map_some, zpick]
  | i :: is, [], ws, _ => by
    apply List.ext_getElem?
    intro k
    rw [zup_get]
    show ws[k]? = _
    cases h : ws[k]? with
    | none => rfl
    | some w => simp only [Option.map_some, zpick]
  | i :: is, x :: xs, ws, hn => by
    have hnd : i ∉ is ∧ va_nd is = true := by
      have h := hn
      simp only [va_nd, Bool.and_eq_true] at h
      refine ⟨?_, h.2⟩
      intro hi
      have h1 := h.1
      simp [hi] at h1
    show zset (ws.set i x) is xs = _
    rw [zset_up is xs (ws.set i x) hnd.2]
    apply List.ext_getElem?
    intro k
    rw [zup_get, zup_get]
    by_cases hk : k = i
    · subst hk
      by_cases hl : k < ws.length
      · rw [List.getElem?_set_self hl, List.getElem?_eq_getElem hl]
        simp only [Option.map_some, Nat.zero_add]
        rw [zpick_out is xs x k hnd.1]
        have h1 : Nat.beq k k = true := Nat.beq_refl k
        simp only [zpick, h1, cond_true]
      · rw [List.getElem?_eq_none (by rw [List.length_set]; omega), List.getElem?_eq_none (by omega)]
        rfl
    · rw [List.getElem?_set_ne (Ne.symm hk)]
      cases h : ws[k]? with
      | none => rfl
      | some w =>
        have h1 : Nat.beq k i = false := by
          cases hb : Nat.beq k i
          · rfl
          · exact absurd (Nat.eq_of_beq_eq_true hb) hk
        simp only [Option.map_some, Nat.zero_add, zpick, h1, cond_false]
section ZC4
variable {p : Program} {l : Launch} {e : Env} {R : Room} {s : State} {m : MethodId} {args : Array Value} {below : List Frame} {meth : Method} {c : Code} {H : Heap} {locs : List Loc} {cells slots : Nat} {Q : State → Prop}
variable {pc : Nat} {ls : Array Slot} {rest st0 : List Value} {D : va_G} {A : Nat → Prop} {a : Array Value}
theorem zcn2 {rv : Option Value} {wc w1 ws : va_W} {H0 : Heap} (hr : va_Run p l e R s m args below meth c H locs cells slots 0 0 (F0 m pc ls st0) rest (zQ D rv w1 (va_A wc H.size) a) (va_A wc H.size))
    (hS : va_S A H0 H locs) (hP : va_P D vwCl ws H) (hD : va_D A ws) (hF : ∀ q, va_A wc H.size q → A q) (isC : List Nat) (hC : isC.map (fun i => ws[i]?) = wc.map some) (hn : va_nd isC = true) (hadr : w1.map Prod.fst = wc.map Prod.fst)
    (kk : ∀ (H1 : Heap) (locs1 : List Loc), va_P D vwCl (zup 0 ws isC w1) H1 → va_D A (zup 0 ws isC w1) → va_S A H0 H1 locs1 → W p l e R s m args below meth c H1 locs1 cells slots Q (F0 m (pc + 3) ls (rv.toList ++ rest))) : W p l e R s m args below meth c H locs cells slots Q (F0 m pc ls st0) := by
  refine zcm2 hr hS hP hD hF isC hC hn hadr (fun H1 locs1 h1 h2 h3 => ?_)
  rw [zset_up isC w1 ws hn] at h1 h2
  exact kk H1 locs1 h1 h2 h3
theorem zcnQ {rv : Option Value} {wc w1 X pl : va_W} {H0 : Heap} (hr : va_Run p l e R s m args below meth c H locs cells slots 0 0 (F0 m pc ls st0) rest (zQ D rv w1 (va_A wc H.size) a) (va_A wc H.size))
    (hS : va_S A H0 H locs) (hP : va_P D vwCl (X ++ pl) H) (hD : va_D A (X ++ pl)) (hF : ∀ q, va_A wc H.size q → A q) (isC : List Nat) (hC : isC.map (fun i => (X ++ pl)[i]?) = wc.map some) (hn : va_nd isC = true) (hlt0 : isC.all (fun i => Nat.blt i X.length) = true) (hadr : w1.map Prod.fst = wc.map Prod.fst)
    (kk : ∀ (H1 : Heap) (locs1 : List Loc), va_P D vwCl (zup 0 X isC w1 ++ pl) H1 → va_D A (zup 0 X isC w1 ++ pl) → va_S A H0 H1 locs1 → W p l e R s m args below meth c H1 locs1 cells slots Q (F0 m (pc + 3) ls (rv.toList ++ rest))) : W p l e R s m args below meth c H locs cells slots Q (F0 m pc ls st0) := by
  refine zcmQ hr hS hP hD hF isC hC hn hlt0 hadr (fun H1 locs1 h1 h2 h3 => ?_)
  rw [zset_up isC w1 X hn] at h1 h2
  exact kk H1 locs1 h1 h2 h3
theorem zcnP {rv : Option Value} {cx x1 X pl pl1 : va_W} {H0 : Heap} (hr : va_Run p l e R s m args below meth c H locs cells slots 0 0 (F0 m pc ls st0) rest (zQ D rv (x1 ++ pl1) (va_A (cx ++ pl) H.size) a) (va_A (cx ++ pl) H.size))
    (hS : va_S A H0 H locs) (hP : va_P D vwCl (X ++ pl) H) (hD : va_D A (X ++ pl)) (hF : ∀ q, va_A (cx ++ pl) H.size q → A q) (isC : List Nat) (hC : isC.map (fun i => X[i]?) = cx.map some) (hn : va_nd isC = true) (hlt0 : isC.all (fun i => Nat.blt i X.length) = true) (hadr : x1.map Prod.fst = cx.map Prod.fst) (hpl : pl1.map Prod.fst = pl.map Prod.fst)
    (kk : ∀ (H1 : Heap) (locs1 : List Loc), va_P D vwCl (zup 0 X isC x1 ++ pl1) H1 → va_D A (zup 0 X isC x1 ++ pl1) → va_S A H0 H1 locs1 → W p l e R s m args below meth c H1 locs1 cells slots Q (F0 m (pc + 3) ls (rv.toList ++ rest))) : W p l e R s m args below meth c H locs cells slots Q (F0 m pc ls st0) := by
  refine zcmP hr hS hP hD hF isC hC hn hlt0 hadr hpl (fun H1 locs1 h1 h2 h3 => ?_)
  rw [zset_up isC x1 X hn] at h1 h2
  exact kk H1 locs1 h1 h2 h3
end ZC4
