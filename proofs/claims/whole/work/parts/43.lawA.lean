/-! the law: base rows -/
section ZLA
variable {p : Program} {l : Launch} {e : Env} {R : Room} {s : State} {m : MethodId} {args : Array Value} {below : List Frame} {meth : Method} {c : Code} {H : Heap} {locs : List Loc} {cells slots mc ms : Nat} {Q : State → Prop}
variable {pc : Nat} {ls : Array Slot} {rest st0 : List Value} {D : va_G} {A : Nat → Prop} {a : Array Value}
theorem zXr {g : JFrame} {Qa : State → Outcome → State → Prop} {free : Addr → Prop} (hr : vx_Run p l e R s m args below meth c H locs cells slots mc ms g rest Qa (fun _ _ _ => False) free) : va_Run p l e R s m args below meth c H locs cells slots mc ms g rest Qa free := by
  intro T hT X
  rcases hr T hT X with h | ⟨q, st₀, t, T', L, E, ce, h0, X', hL, e1, e2, hx, _⟩
  · exact h
  · exact hx.elim
theorem zcm2L {rv : Option Value} {wc w1 ws : va_W} {H0 : Heap} (hr : va_Run p l e R s m args below meth c H locs cells slots mc ms (F0 m pc ls st0) rest (zQ D rv w1 (va_A wc H.size) a) (va_A wc H.size))
    (hS : va_S A H0 H locs) (hP : va_P D vwCl ws H) (hD : va_D A ws) (hF : ∀ q, va_A wc H.size q → A q) (isC : List Nat) (hC : isC.map (fun i => ws[i]?) = wc.map some) (hn : va_nd isC = true) (hadr : w1.map Prod.fst = wc.map Prod.fst)
    (kk : ∀ (H1 : Heap) (locs1 : List Loc), va_P D vwCl (zset ws isC w1) H1 → va_D A (zset ws isC w1) → va_S A H0 H1 locs1 → W p l e R s m args below meth c H1 locs1 (cells + mc) (slots + ms) Q (F0 m (pc + 3) ls (rv.toList ++ rest))) : W p l e R s m args below meth c H locs cells slots Q (F0 m pc ls st0) := by
  intro T hT X
  obtain ⟨v, st₀, t, T', L, h0, X', hL, e1, e2, ⟨hv, ⟨hP1, hD1⟩, hz, hk⟩, st⟩ := hr T hT X
  cases hv
  rw [h0] at hz hk
  rw [← e1] at hP1 hz
  have hk1 : ∀ q : Nat, q < H.size → ¬ va_A wc H.size q → T'.heap[q]? = H[q]? := fun q h1 h2 => by rw [e1]; exact hk q h1 h2
  obtain ⟨hPj, hDj⟩ := zjoin hP hD isC hC hn hadr hk1 hP1
  obtain ⟨t2, a1, b1⟩ := kk T'.heap (locs ++ L) hPj hDj ⟨Nat.le_trans hS.1 hz, fun q h1 h2 => by rw [hk1 q (Nat.lt_of_lt_of_le h1 hS.1) (fun z => h2 (hF q z))]; exact hS.2.1 q h1 h2, fun q hq => by
      rcases List.mem_append.mp hq with h | h
      · exact hS.2.2 q h
      · exact hF _ (hL q h)⟩ T' rfl X'
  exact ⟨t2, st t2 a1, b1⟩
theorem zcmQL {rv : Option Value} {wc w1 X pl : va_W} {H0 : Heap} (hr : va_Run p l e R s m args below meth c H locs cells slots mc ms (F0 m pc ls st0) rest (zQ D rv w1 (va_A wc H.size) a) (va_A wc H.size))
    (hS : va_S A H0 H locs) (hP : va_P D vwCl (X ++ pl) H) (hD : va_D A (X ++ pl)) (hF : ∀ q, va_A wc H.size q → A q) (isC : List Nat) (hC : isC.map (fun i => (X ++ pl)[i]?) = wc.map some) (hn : va_nd isC = true) (hlt0 : isC.all (fun i => Nat.blt i X.length) = true) (hadr : w1.map Prod.fst = wc.map Prod.fst)
    (kk : ∀ (H1 : Heap) (locs1 : List Loc), va_P D vwCl (zset X isC w1 ++ pl) H1 → va_D A (zset X isC w1 ++ pl) → va_S A H0 H1 locs1 → W p l e R s m args below meth c H1 locs1 (cells + mc) (slots + ms) Q (F0 m (pc + 3) ls (rv.toList ++ rest))) : W p l e R s m args below meth c H locs cells slots Q (F0 m pc ls st0) := by
  have hlt := zlt_of hlt0
  refine zcm2L hr hS hP hD hF isC hC hn hadr (fun H1 locs1 h1 h2 h3 => ?_)
  rw [zset_app isC w1 X pl hlt] at h1 h2
  exact kk H1 locs1 h1 h2 h3
theorem zcmPL {rv : Option Value} {cx x1 X pl pl1 : va_W} {H0 : Heap} (hr : va_Run p l e R s m args below meth c H locs cells slots mc ms (F0 m pc ls st0) rest (zQ D rv (x1 ++ pl1) (va_A (cx ++ pl) H.size) a) (va_A (cx ++ pl) H.size))
    (hS : va_S A H0 H locs) (hP : va_P D vwCl (X ++ pl) H) (hD : va_D A (X ++ pl)) (hF : ∀ q, va_A (cx ++ pl) H.size q → A q) (isC : List Nat) (hC : isC.map (fun i => X[i]?) = cx.map some) (hn : va_nd isC = true) (hlt0 : isC.all (fun i => Nat.blt i X.length) = true) (hadr : x1.map Prod.fst = cx.map Prod.fst) (hpl : pl1.map Prod.fst = pl.map Prod.fst)
    (kk : ∀ (H1 : Heap) (locs1 : List Loc), va_P D vwCl (zset X isC x1 ++ pl1) H1 → va_D A (zset X isC x1 ++ pl1) → va_S A H0 H1 locs1 → W p l e R s m args below meth c H1 locs1 (cells + mc) (slots + ms) Q (F0 m (pc + 3) ls (rv.toList ++ rest))) : W p l e R s m args below meth c H locs cells slots Q (F0 m pc ls st0) := by
  have hlt := zlt_of hlt0
  have hlp : pl1.length = pl.length := by have := congrArg List.length hpl; simpa using this
  have key : ∀ (Y : va_W), pl1.length ≤ Y.length → zset (X ++ pl) (isC ++ (List.range' X.length pl.length)) (x1 ++ pl1) = zset X isC x1 ++ pl1 := by
    intro _ _
    have hx1 : x1.length = isC.length := by
      have h1 := congrArg List.length hadr
      have h2 := congrArg List.length hC
      simp at h1 h2
      omega
    have step1 : ∀ (is : List Nat) (xs ws : va_W) (is2 : List Nat) (xs2 : va_W), xs.length = is.length → zset ws (is ++ is2) (xs ++ xs2) = zset (zset ws is xs) is2 xs2 := by
      intro is
      induction is with
      | nil => intro xs ws is2 xs2 h; cases xs with
        | nil => simp only [zset, List.nil_append]
        | cons x xs => simp at h
      | cons i is ih => intro xs ws is2 xs2 h; cases xs with
        | nil => simp at h
        | cons x xs => exact ih xs (ws.set i x) is2 xs2 (by simpa using h)
    rw [step1 isC x1 (X ++ pl) _ pl1 hx1, zset_app isC x1 X pl hlt]
    have step2 : ∀ (q : va_W) (Z r : va_W), q.length = r.length → zset (Z ++ r) (List.range' Z.length r.length) q = Z ++ q := by
      intro q
      induction q with
      | nil => intro Z r h; cases r with
        | nil => simp [zset]
        | cons x r => simp at h
      | cons x q ih => intro Z r h; cases r with
        | nil => simp at h
        | cons y r =>
          show zset (Z ++ y :: r) (Z.length :: List.range' (Z.length + 1) r.length) (x :: q) = _
          show zset ((Z ++ y :: r).set Z.length x) (List.range' (Z.length + 1) r.length) q = _
          have e1 : (Z ++ y :: r).set Z.length x = (Z ++ [x]) ++ r := by simp
          have e2 : Z.length + 1 = (Z ++ [x]).length := by simp
          rw [e1, e2, ih (Z ++ [x]) r (by simpa using h)]
          simp
    rw [show X.length = (zset X isC x1).length from (zset_len isC x1 X).symm]
    exact step2 pl1 (zset X isC x1) pl hlp
  have hC2 : (isC ++ List.range' X.length pl.length).map (fun i => (X ++ pl)[i]?) = (cx ++ pl).map some := by
    rw [List.map_append, List.map_append]
    congr 1
    · rw [← hC]
      apply List.map_congr_left
      intro i hi
      rw [List.getElem?_append_left (hlt i hi)]
    · apply List.ext_getElem?
      intro k
      by_cases hk : k < pl.length
      · simp [hk]
      · simp [hk]
  have hn2 : va_nd (isC ++ List.range' X.length pl.length) = true := by
    have e : ∀ l : List Nat, va_nd l = true ↔ l.Nodup := by
      intro l
      induction l with
      | nil => simp [va_nd]
      | cons x l ih => simp [va_nd, ih]
    rw [e] at hn ⊢
    refine List.nodup_append.mpr ⟨hn, List.nodup_range' , ?_⟩
    intro x hx y hy hxy
    subst hxy
    have h1 := hlt x hx
    simp [List.mem_range'] at hy
    omega
  refine zcm2L hr hS hP hD hF (isC ++ List.range' X.length pl.length) hC2 hn2 (by rw [List.map_append, List.map_append, hadr, hpl]) (fun H1 locs1 h1 h2 h3 => ?_)
  rw [key pl1 (Nat.le_refl _)] at h1 h2
  exact kk H1 locs1 h1 h2 h3
theorem zcLQ {rv : Option Value} {wc w1 X pl : va_W} {H0 : Heap} (hr : va_Run p l e R s m args below meth c H locs cells slots mc ms (F0 m pc ls st0) rest (zQ D rv w1 (va_A wc H.size) a) (va_A wc H.size))
    (hS : va_S A H0 H locs) (hP : va_P D vwCl (X ++ pl) H) (hD : va_D A (X ++ pl)) (hF : ∀ q, va_A wc H.size q → A q) (isC : List Nat) (hC : isC.map (fun i => (X ++ pl)[i]?) = wc.map some) (hn : va_nd isC = true) (hlt0 : isC.all (fun i => Nat.blt i X.length) = true) (hadr : w1.map Prod.fst = wc.map Prod.fst)
    (kk : ∀ (H1 : Heap) (locs1 : List Loc), va_P D vwCl (zup 0 X isC w1 ++ pl) H1 → va_D A (zup 0 X isC w1 ++ pl) → va_S A H0 H1 locs1 → W p l e R s m args below meth c H1 locs1 (cells + mc) (slots + ms) Q (F0 m (pc + 3) ls (rv.toList ++ rest))) : W p l e R s m args below meth c H locs cells slots Q (F0 m pc ls st0) := by
  refine zcmQL hr hS hP hD hF isC hC hn hlt0 hadr (fun H1 locs1 h1 h2 h3 => ?_)
  rw [zset_up isC w1 X hn] at h1 h2
  exact kk H1 locs1 h1 h2 h3
theorem zcLP {rv : Option Value} {cx x1 X pl pl1 : va_W} {H0 : Heap} (hr : va_Run p l e R s m args below meth c H locs cells slots mc ms (F0 m pc ls st0) rest (zQ D rv (x1 ++ pl1) (va_A (cx ++ pl) H.size) a) (va_A (cx ++ pl) H.size))
    (hS : va_S A H0 H locs) (hP : va_P D vwCl (X ++ pl) H) (hD : va_D A (X ++ pl)) (hF : ∀ q, va_A (cx ++ pl) H.size q → A q) (isC : List Nat) (hC : isC.map (fun i => X[i]?) = cx.map some) (hn : va_nd isC = true) (hlt0 : isC.all (fun i => Nat.blt i X.length) = true) (hadr : x1.map Prod.fst = cx.map Prod.fst) (hpl : pl1.map Prod.fst = pl.map Prod.fst)
    (kk : ∀ (H1 : Heap) (locs1 : List Loc), va_P D vwCl (zup 0 X isC x1 ++ pl1) H1 → va_D A (zup 0 X isC x1 ++ pl1) → va_S A H0 H1 locs1 → W p l e R s m args below meth c H1 locs1 (cells + mc) (slots + ms) Q (F0 m (pc + 3) ls (rv.toList ++ rest))) : W p l e R s m args below meth c H locs cells slots Q (F0 m pc ls st0) := by
  refine zcmPL hr hS hP hD hF isC hC hn hlt0 hadr hpl (fun H1 locs1 h1 h2 h3 => ?_)
  rw [zset_up isC x1 X hn] at h1 h2
  exact kk H1 locs1 h1 h2 h3
end ZLA
theorem zblindN {D : va_G} {cy : Nat → ClassId} {tt tx : Nat → Nat} {sz : Nat} {av : List Value} {ws : va_W} {A : Nat → Prop} {C T : String} : FrameBlind (fun a U => zPc D cy tt sz av ws a U ∧ gX tx A U ∧ va_Nc C T U) := by
  intro a U g mk q
  obtain ⟨q1, q2, q3⟩ := q
  obtain ⟨r1, r2⟩ := zblindX (D := D) (cy := cy) (tt := tt) (tx := tx) (sz := sz) (av := av) (ws := ws) (A := A) a U g mk ⟨q1, q2⟩
  exact ⟨r1, r2, va_Nc.moved (u := U) (U := U.calling g mk a) (Vm.Alike.refl U.vm) q3⟩
theorem zpreN {D : va_G} {cy : Nat → ClassId} {tt tx : Nat → Nat} {A : Nat → Prop} {s : State} {H : Heap} {locs : List Loc} {av : List Value} {wc : va_W} {C T : String} (hE : gE D cy tt A s) (hX : gX tx A s) (hN : va_Nc C T s) (hS : va_S A s.heap H locs) (hPc : va_P D vwCl wc H) (hDc : va_D A wc) (hF : ∀ q, va_A wc H.size q → A q) :
    ∀ U : State, U.heap = H → s.WarmedH U.vm → (fun a U => zPc D cy tt H.size av wc a U ∧ gX tx (va_A wc H.size) U ∧ va_Nc C T U) av.toArray U := fun U hU hW => ⟨zpre hE hS hPc hDc hF U hU hW, hX.use hW hU hS hF, va_Nc.moved hW.alike hN⟩
abbrev LA (s : State) : Nat → Prop := fun q => s.heap.size ≤ q
def LIn (x : Int32) (L : Nat) : Prop := vp_in (x + 1) L ∧ vp_in (x + 2) L ∧ vp_in (x + 3) L ∧ vp_in (x + 4) L ∧ vp_in (x + 5) L ∧ vp_in (x + 6) L
def LC (p : Program) (l : Launch) (s : State) (m : MethodId) (c : Code) (b L : Nat) (xs : Nat → Int32) (D : va_G) (cy : Nat → ClassId) (tt tx : Nat → Nat) : Prop :=
  p.tables.exec = Jvm.exec ∧ c.code = cL_law ∧ c.maxLocals = 8 ∧ s.vm.findClass RL = some m.cls ∧ (∀ w ∈ wsL_law, w.before #[Value.ref b] s = true) ∧ va_X b L xs s s.heap ∧ b < s.heap.size ∧ gE D cy tt (LA s) s ∧ gX tx (LA s) s ∧ va_Nc "java/lang/IllegalStateException" "java/lang/IllegalArgumentException" s ∧ l.stackTraces = false
theorem cL66 : Cond.constantLong RL 66 4294967295 ∈ wsL_law := List.mem_append_left _ (List.mem_append_left _ (List.mem_append_left _ (List.mem_of_getElem? (i := 7) rfl)))
theorem vp_updL_s (f : Nat → Int64) (k : Nat) (v : Int64) : vp_updL f k v k = v := by unfold vp_updL; rw [if_pos rfl]
theorem lg_cmp_s (v : Int64) : lg_cmp v v = 0 := by
  unfold lg_cmp
  rw [if_neg (fun h => absurd h (by simp)), if_pos rfl]
theorem zcmpL {f : Nat → Int64} {k : Nat} {v : Int64} : lg_cmp (vp_updL f k v k) v = 0 := by rw [vp_updL_s, lg_cmp_s]
theorem zcmpS0 {f : Nat → Int64} {k : Nat} {v : Int32} (h : v = 0) : lg_cmp (vp_updL f k (if v = 0 then (0 : Int64) else 1) k) 0 = 0 := by rw [vp_updL_s, if_pos h, lg_cmp_s]
theorem zcmpS1 {f : Nat → Int64} {k : Nat} {v : Int32} (h : ¬ v = 0) : lg_cmp (vp_updL f k (if v = 0 then (0 : Int64) else 1) k) 1 = 0 := by rw [vp_updL_s, if_neg h, lg_cmp_s]
