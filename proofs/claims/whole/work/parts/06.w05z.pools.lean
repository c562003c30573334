/-! slots and keys as one opaque part behind the other cells -/
def zpl (cA : ClassId) (ho hk : Nat → Nat) (kd ln us ro ue : Nat → Int32) (ky : Nat → Nat → Int32) : va_W := zpO ho hk kd ln us ro ue ++ zpK cA hk ky
section ZL
variable {X : va_W} {ho hk : Nat → Nat} {kd ln us ro ue : Nat → Int32} {ky ky2 : Nat → Nat → Int32} {cA : ClassId} {n j : Nat} {v : Int32} {f : Nat → Int32} {kd2 ln2 us2 ro2 ue2 : Nat → Int32}
theorem zpl_adr : (zpl cA ho hk kd2 ln2 us2 ro2 ue2 ky2).map Prod.fst = (zpl cA ho hk kd ln us ro ue ky).map Prod.fst := rfl
theorem zplO_get (hn : X.length = n) (hj : j < 16) : (X ++ zpl cA ho hk kd ln us ro ue ky)[n + j]? = some (ho j, .inr (10, [.ref (hk j), .int (kd j), .int (ln j), .int (us j), .int (ro j), .int (ue j)])) := by
  unfold zpl
  rw [← List.append_assoc]
  exact zpO_getK hn hj
theorem zplK_get (hn : X.length = n) (hj : j < 16) : (X ++ zpl cA ho hk kd ln us ro ue ky)[n + 16 + j]? = some (hk j, .inl (cA, 64, .inl (ky j))) := by
  unfold zpl
  rw [← List.append_assoc]
  exact zpK_get hn hj
theorem zplO_set_kind (hn : X.length = n) (hj : j < 16) : (X ++ zpl cA ho hk kd ln us ro ue ky).set (n + j) (ho j, .inr (10, [.ref (hk j), .int v, .int (ln j), .int (us j), .int (ro j), .int (ue j)])) = X ++ zpl cA ho hk (upd kd j v) ln us ro ue ky := by
  unfold zpl
  rw [← List.append_assoc, zpO_setK_kind hn hj, List.append_assoc]
theorem zplO_set_length (hn : X.length = n) (hj : j < 16) : (X ++ zpl cA ho hk kd ln us ro ue ky).set (n + j) (ho j, .inr (10, [.ref (hk j), .int (kd j), .int v, .int (us j), .int (ro j), .int (ue j)])) = X ++ zpl cA ho hk kd (upd ln j v) us ro ue ky := by
  unfold zpl
  rw [← List.append_assoc, zpO_setK_length hn hj, List.append_assoc]
theorem zplO_set_usage (hn : X.length = n) (hj : j < 16) : (X ++ zpl cA ho hk kd ln us ro ue ky).set (n + j) (ho j, .inr (10, [.ref (hk j), .int (kd j), .int (ln j), .int v, .int (ro j), .int (ue j)])) = X ++ zpl cA ho hk kd ln (upd us j v) ro ue ky := by
  unfold zpl
  rw [← List.append_assoc, zpO_setK_usage hn hj, List.append_assoc]
theorem zplO_set_role (hn : X.length = n) (hj : j < 16) : (X ++ zpl cA ho hk kd ln us ro ue ky).set (n + j) (ho j, .inr (10, [.ref (hk j), .int (kd j), .int (ln j), .int (us j), .int v, .int (ue j)])) = X ++ zpl cA ho hk kd ln us (upd ro j v) ue ky := by
  unfold zpl
  rw [← List.append_assoc, zpO_setK_role hn hj, List.append_assoc]
theorem zplO_set_uses (hn : X.length = n) (hj : j < 16) : (X ++ zpl cA ho hk kd ln us ro ue ky).set (n + j) (ho j, .inr (10, [.ref (hk j), .int (kd j), .int (ln j), .int (us j), .int (ro j), .int v])) = X ++ zpl cA ho hk kd ln us ro (upd ue j v) ky := by
  unfold zpl
  rw [← List.append_assoc, zpO_setK_uses hn hj, List.append_assoc]
theorem zplK_set (hn : X.length = n) (hj : j < 16) : (X ++ zpl cA ho hk kd ln us ro ue ky).set (n + 16 + j) (hk j, .inl (cA, 64, .inl f)) = X ++ zpl cA ho hk kd ln us ro ue (va_up ky j f) := by
  unfold zpl
  rw [← List.append_assoc, zpK_set hn hj, List.append_assoc]
end ZL
section ZC3
variable {p : Program} {l : Launch} {e : Env} {R : Room} {s : State} {m : MethodId} {args : Array Value} {below : List Frame} {meth : Method} {c : Code} {H : Heap} {locs : List Loc} {cells slots : Nat} {Q : State → Prop}
variable {pc : Nat} {ls : Array Slot} {rest st0 : List Value} {D : va_G} {A : Nat → Prop} {a : Array Value}
theorem zset_app : ∀ (is : List Nat) (xs X pl : va_W), (∀ i ∈ is, i < X.length) → zset (X ++ pl) is xs = zset X is xs ++ pl
  | [], _, _, _, _ => by simp only [zset]
  | _ :: _, [], _, _, _ => by simp only [zset]
  | i :: is, x :: xs, X, pl, h => by
    show zset ((X ++ pl).set i x) is xs = zset (X.set i x) is xs ++ pl
    rw [List.set_append_left _ _ (h i List.mem_cons_self)]
    exact zset_app is xs (X.set i x) pl (fun j hj => by rw [List.length_set]; exact h j (List.mem_cons_of_mem _ hj))
theorem zset_len : ∀ (is : List Nat) (xs X : va_W), (zset X is xs).length = X.length
  | [], _, _ => by simp only [zset]
  | _ :: _, [], _ => by simp only [zset]
  | i :: is, x :: xs, X => by
    show (zset (X.set i x) is xs).length = X.length
    rw [zset_len is xs (X.set i x), List.length_set]
theorem zlt_of {isC : List Nat} {X : va_W} (h : isC.all (fun i => Nat.blt i X.length) = true) : ∀ i ∈ isC, i < X.length := fun i hi => by
  have := List.all_eq_true.mp h i hi
  simpa [Nat.blt_eq] using this
theorem zcmQ {rv : Option Value} {wc w1 X pl : va_W} {H0 : Heap} (hr : va_Run p l e R s m args below meth c H locs cells slots 0 0 (F0 m pc ls st0) rest (zQ D rv w1 (va_A wc H.size) a) (va_A wc H.size))
    (hS : va_S A H0 H locs) (hP : va_P D vwCl (X ++ pl) H) (hD : va_D A (X ++ pl)) (hF : ∀ q, va_A wc H.size q → A q) (isC : List Nat) (hC : isC.map (fun i => (X ++ pl)[i]?) = wc.map some) (hn : va_nd isC = true) (hlt0 : isC.all (fun i => Nat.blt i X.length) = true) (hadr : w1.map Prod.fst = wc.map Prod.fst)
    (kk : ∀ (H1 : Heap) (locs1 : List Loc), va_P D vwCl (zset X isC w1 ++ pl) H1 → va_D A (zset X isC w1 ++ pl) → va_S A H0 H1 locs1 → W p l e R s m args below meth c H1 locs1 cells slots Q (F0 m (pc + 3) ls (rv.toList ++ rest))) : W p l e R s m args below meth c H locs cells slots Q (F0 m pc ls st0) := by
  have hlt := zlt_of hlt0
  refine zcm2 hr hS hP hD hF isC hC hn hadr (fun H1 locs1 h1 h2 h3 => ?_)
  rw [zset_app isC w1 X pl hlt] at h1 h2
  exact kk H1 locs1 h1 h2 h3
/-- the callee has the whole pool and some of the other cells -/
theorem zcmP {rv : Option Value} {cx x1 X pl pl1 : va_W} {H0 : Heap} (hr : va_Run p l e R s m args below meth c H locs cells slots 0 0 (F0 m pc ls st0) rest (zQ D rv (x1 ++ pl1) (va_A (cx ++ pl) H.size) a) (va_A (cx ++ pl) H.size))
    (hS : va_S A H0 H locs) (hP : va_P D vwCl (X ++ pl) H) (hD : va_D A (X ++ pl)) (hF : ∀ q, va_A (cx ++ pl) H.size q → A q) (isC : List Nat) (hC : isC.map (fun i => X[i]?) = cx.map some) (hn : va_nd isC = true) (hlt0 : isC.all (fun i => Nat.blt i X.length) = true) (hadr : x1.map Prod.fst = cx.map Prod.fst) (hpl : pl1.map Prod.fst = pl.map Prod.fst)
    (kk : ∀ (H1 : Heap) (locs1 : List Loc), va_P D vwCl (zset X isC x1 ++ pl1) H1 → va_D A (zset X isC x1 ++ pl1) → va_S A H0 H1 locs1 → W p l e R s m args below meth c H1 locs1 cells slots Q (F0 m (pc + 3) ls (rv.toList ++ rest))) : W p l e R s m args below meth c H locs cells slots Q (F0 m pc ls st0) := by
  have hlt := zlt_of hlt0
  have hlp : pl1.length = pl.length := by have := congrArg List.length hpl; simpa using this
  have key : ∀ (Y : va_W), pl1.length ≤ Y.length → zset (X ++ pl) (isC ++ (List.range' X.length pl.length)) (x1 ++ pl1) = zset X isC x1 ++ pl1 := by
    intro _ _
    have hx1 : x1.length = isC.length := by
      have h1 := congrArg List.length hadr
      have h2 := congrArg List.length hC
      simp at h1 h2
      omega
    have step1 : ∀ (is : List Nat) (xs ws : va_W) (is2 : List Nat) (xs2 : va_W), xs.length = is.length → zset ws (is ++ is2) (xs ++ xs2) = zset (zset ws is xs) is2 xs2 := by
      intro is
      induction is with
      | nil => intro xs ws is2 xs2 h; cases xs with
        | nil => simp only [zset, List.nil_append]
        | cons x xs => simp at h
      | cons i is ih => intro xs ws is2 xs2 h; cases xs with
        | nil => simp at h
        | cons x xs => exact ih xs (ws.set i x) is2 xs2 (by simpa using h)
    rw [step1 isC x1 (X ++ pl) _ pl1 hx1, zset_app isC x1 X pl hlt]
    have step2 : ∀ (q : va_W) (Z r : va_W), q.length = r.length → zset (Z ++ r) (List.range' Z.length r.length) q = Z ++ q := by
      intro q
      induction q with
      | nil => intro Z r h; cases r with
        | nil => simp [zset]
        | cons x r => simp at h
      | cons x q ih => intro Z r h; cases r with
        | nil => simp at h
        | cons y r =>
          show zset (Z ++ y :: r) (Z.length :: List.range' (Z.length + 1) r.length) (x :: q) = _
          show zset ((Z ++ y :: r).set Z.length x) (List.range' (Z.length + 1) r.length) q = _
          have e1 : (Z ++ y :: r).set Z.length x = (Z ++ [x]) ++ r := by simp
          have e2 : Z.length + 1 = (Z ++ [x]).length := by simp
          rw [e1, e2, ih (Z ++ [x]) r (by simpa using h)]
          simp
    rw [show X.length = (zset X isC x1).length from (zset_len isC x1 X).symm]
    exact step2 pl1 (zset X isC x1) pl hlp
  have hC2 : (isC ++ List.range' X.length pl.length).map (fun i => (X ++ pl)[i]?) = (cx ++ pl).map some := by
    rw [List.map_append, List.map_append]
    congr 1
    · rw [← hC]
      apply List.map_congr_left
      intro i hi
      rw [List.getElem?_append_left (hlt i hi)]
    · apply List.ext_getElem?
      intro k
      by_cases hk : k < pl.length
      · simp [hk]
      · simp [hk]
  have hn2 : va_nd (isC ++ List.range' X.length pl.length) = true := by
    have e : ∀ l : List Nat, va_nd l = true ↔ l.Nodup := by
      intro l
      induction l with
      | nil => simp [va_nd]
      | cons x l ih => simp [va_nd, ih]
    rw [e] at hn ⊢
    refine List.nodup_append.mpr ⟨hn, List.nodup_range' , ?_⟩
    intro x hx y hy hxy
    subst hxy
    have h1 := hlt x hx
    simp [List.mem_range'] at hy
    omega
  refine zcm2 hr hS hP hD hF (isC ++ List.range' X.length pl.length) hC2 hn2 (by rw [List.map_append, List.map_append, hadr, hpl]) (fun H1 locs1 h1 h2 h3 => ?_)
  rw [key pl1 (Nat.le_refl _)] at h1 h2
  exact kk H1 locs1 h1 h2 h3
end ZC3
