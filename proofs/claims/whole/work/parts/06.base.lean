abbrev vwCl : List vw_C := [(RJ0, TJ0, 4), (RJ4, TJ4, 4), (RX0, TX0, 2), (RX1, TX1, 8), (RX2, TX2, 7), (RX3, TX3, 6), (RX4, TX4, 3), (RX5, TX5, 2), (RX6, TX6, 7), (RX7, TX7, 5), (RX8, TX8, 6), (RX9, TX9, 19), (RX10, TX10, 52)]
def zdt (c : ByteArray) (L : List (Nat × Instr × Nat)) : Bool := L.all (fun q => decide (decode c q.1 = .ok (q.2.1, q.2.2)))
theorem zdt_at {c : ByteArray} {L : List (Nat × Instr × Nat)} (h : zdt c L = true) (k : Nat) {pc : Nat} {i : Instr} {n : Nat} (hk : L[k]? = some (pc, i, n)) : decode c pc = .ok (i, n) := by
  have h1 := List.all_eq_true.mp h (pc, i, n) (List.mem_of_getElem? hk)
  simp only [decide_eq_true_eq] at h1
  exact h1
def gTab : List (String × String × String × FieldType × Nat × (Nat → Value)) := [
  (RX0, "BOX", "[I", .int, 256, fun j => .int (tb_BOX.getD j 0)),
  (RX0, "BOX_BACK", "[I", .int, 256, fun j => .int (tb_BOX_BACK.getD j 0)),
  (RX7, "BEGINNING", "[I", .int, 8, fun j => .int (tb_BEGINNING.getD j 0)),
  (RX7, "CONSTANTS", "[I", .int, 64, fun j => .int (tb_CONSTANTS.getD j 0)),
  (RX6, "COUNTING_KEY", "[J", .long, 4, fun j => .long (tb_COUNTING_KEY.getD j 0)),
  (RX6, "DOUBLED_DIGITS", "[J", .long, 2, fun j => .long (tb_DOUBLED_DIGITS.getD j 0)),
  (RX6, "AES_128_ANSWER", "[J", .long, 2, fun j => .long (tb_AES_128_ANSWER.getD j 0)),
  (RX6, "AES_256_ANSWER", "[J", .long, 2, fun j => .long (tb_AES_256_ANSWER.getD j 0)),
  (RX6, "MODES_KEY", "[J", .long, 2, fun j => .long (tb_MODES_KEY.getD j 0)),
  (RX6, "MODES_TEXT", "[J", .long, 4, fun j => .long (tb_MODES_TEXT.getD j 0)),
  (RX6, "CBC_ANSWER", "[J", .long, 4, fun j => .long (tb_CBC_ANSWER.getD j 0)),
  (RX6, "CTR_START", "[J", .long, 2, fun j => .long (tb_CTR_START.getD j 0)),
  (RX6, "CTR_ANSWER", "[J", .long, 4, fun j => .long (tb_CTR_ANSWER.getD j 0)),
  (RX6, "ZEROS", "[J", .long, 2, fun j => .long (tb_ZEROS.getD j 0)),
  (RX6, "GCM_ANSWER", "[J", .long, 4, fun j => .long (tb_GCM_ANSWER.getD j 0)),
  (RX6, "CMAC_OF_NOTHING", "[J", .long, 2, fun j => .long (tb_CMAC_OF_NOTHING.getD j 0)),
  (RX6, "CMAC_OF_BLOCK", "[J", .long, 2, fun j => .long (tb_CMAC_OF_BLOCK.getD j 0)),
  (RX6, "ABC", "[J", .long, 1, fun j => .long (tb_ABC.getD j 0)),
  (RX6, "ABC_DIGEST", "[J", .long, 4, fun j => .long (tb_ABC_DIGEST.getD j 0)),
  (RX6, "JEFE", "[J", .long, 1, fun j => .long (tb_JEFE.getD j 0)),
  (RX6, "WHAT_DO_YA_WANT", "[J", .long, 4, fun j => .long (tb_WHAT_DO_YA_WANT.getD j 0)),
  (RX6, "HMAC_ANSWER", "[J", .long, 4, fun j => .long (tb_HMAC_ANSWER.getD j 0)),
  (RX6, "WRAP_ANSWER", "[J", .long, 3, fun j => .long (tb_WRAP_ANSWER.getD j 0))]
def gNest : List (String × Nat × MethodName × String) := [(RX0, 17, yX9_intAt, "SealedModule"), (RX0, 34, yX9_putInt, "SealedModule"), (RX1, 52, yX9_putInt, "SealedModule"), (RX2, 51, yX9_alike, "SealedModule"), (RX2, 67, yX9_longAt, "SealedModule"), (RX2, 80, yX9_putInt, "SealedModule"), (RX2, 83, yX9_putLong, "SealedModule"), (RX4, 31, yX9_xorBytes, "SealedModule"), (RX4, 45, yX9_putInt, "SealedModule"), (RX4, 66, yX9_longAt, "SealedModule"), (RX4, 70, yX9_putLong, "SealedModule"), (RX6, 86, yX9_alike, "SealedModule"), (RX6, 182, yX9_putLong, "SealedModule"), (RX6, 214, yX9_longAt, "SealedModule"), (RX7, 47, yX9_putInt, "SealedModule"), (RX9, 37, yX1_init, "SealedModule"), (RX9, 44, yX7_init, "SealedModule"), (RX9, 54, yX0_init, "SealedModule"), (RX9, 115, yX8_init, "SealedModule")]
def gTys (cy : Nat → ClassId) : List (ClassId × FieldType) := [(cy 0, .byte), (cy 1, .int), (cy 2, .long), (cy 3, .boolean), (cy 4, .object RX8)]
def gNs (U : State) : Prop := ∀ (i : Nat) (q : String × Nat × MethodName × String), gNest[i]? = some q → va_Nw (.methodLinkNest q.1 q.2.1 q.2.2.1 q.2.2.2) U
def gT (tt : Nat → Nat) (A : Nat → Prop) (U : State) (H : Heap) : Prop := ∀ (i : Nat) (q : String × String × String × FieldType × Nat × (Nat → Value)), gTab[i]? = some q → va_Z q.1 q.2.1 q.2.2.1 (.ref (tt i)) A U H ∧ va_T q.2.2.2.1 (tt i) q.2.2.2.2.1 q.2.2.2.2.2 A U H
theorem gT.use {tt : Nat → Nat} {A : Nat → Prop} {u U : State} {H H1 : Heap} {B : Nat → Prop} (h : gT tt A u H) (hvm : u.vm.Alike U.vm) (hq : ∀ a : Nat, a < H.size → ¬ A a → H1[a]? = H[a]?) (hAB : ∀ q, B q → A q) : gT tt B U H1 := fun i q hi => ⟨((h i q hi).1.kept hq).narrow hAB |>.moved hvm, ((h i q hi).2.kept hq).narrow hAB |>.moved hvm⟩
theorem gNs.warm {s U : State} (hW : s.WarmedH U.vm) (h : gNs s) : gNs U := fun i q hi => va_Nw.warmM hW (h i q hi)
theorem gNs.same {s U : State} (hv : s.vm = U.vm) (h : gNs s) : gNs U := fun i q hi => va_Nw.same rfl hv (h i q hi)
/-- all that a contract asks of the state beside its cells -/
def gE (D : va_G) (cy : Nat → ClassId) (tt : Nat → Nat) (A : Nat → Prop) (U : State) : Prop := va_K D vwCl (gTys cy) U ∧ gNs U ∧ gT tt A U U.heap
theorem gE.use {D : va_G} {cy : Nat → ClassId} {tt : Nat → Nat} {A B : Nat → Prop} {s U : State} {H : Heap} {locs : List Loc} (h : gE D cy tt A s) (hW : s.WarmedH U.vm) (hU : U.heap = H) (hS : va_S A s.heap H locs) (hAB : ∀ q, B q → A q) : gE D cy tt B U :=
  ⟨va_K.moved hW.alike h.1, h.2.1.warm hW, by rw [hU]; exact h.2.2.use hW.alike hS.2.1 hAB⟩
/-- a contract's start: the arguments, the cells ws, the rest -/
abbrev zPc (D : va_G) (cy : Nat → ClassId) (tt : Nat → Nat) (sz : Nat) (av : List Value) (ws : va_W) : Array Value → State → Prop :=
  va_Pc av (fun U => U.heap.size = sz ∧ va_P D vwCl ws U.heap ∧ va_D (fun _ => True) ws ∧ gE D cy tt (va_A ws sz) U)
theorem zblind {D : va_G} {cy : Nat → ClassId} {tt : Nat → Nat} {sz : Nat} {av : List Value} {ws : va_W} : FrameBlind (zPc D cy tt sz av ws) := by
  intro a U g mk q
  obtain ⟨q0, q1, q2, q3, q4⟩ := q
  exact ⟨q0, q1, q2, q3, va_K.moved (u := U) (U := U.calling g mk a) (Vm.Alike.refl U.vm) q4.1, gNs.same (s := U) (U := U.calling g mk a) rfl q4.2.1, q4.2.2.use (U := U.calling g mk a) (Vm.Alike.refl U.vm) (fun _ _ _ => rfl) (fun _ h => h)⟩
theorem zpre {D : va_G} {cy : Nat → ClassId} {tt : Nat → Nat} {A : Nat → Prop} {s : State} {H : Heap} {locs : List Loc} {av : List Value} {wc : va_W} (hE : gE D cy tt A s) (hS : va_S A s.heap H locs) (hPc : va_P D vwCl wc H) (hDc : va_D A wc) (hF : ∀ q, va_A wc H.size q → A q) :
    ∀ U : State, U.heap = H → s.WarmedH U.vm → zPc D cy tt H.size av wc av.toArray U := fun _ hU hW => ⟨rfl, by rw [hU], by rw [hU]; exact hPc, hDc.weaken (fun _ _ _ _ => trivial), hE.use hW hU hS hF⟩
/-- ends: nothing changed; or the cells are w1 now -/
abbrev zSi (r : Int32) : Array Value → State → Outcome → State → Prop := fun _ st o t => o = .returned (some (.int r)) ∧ t.heap = st.heap
abbrev zSl (r : Int64) : Array Value → State → Outcome → State → Prop := fun _ st o t => o = .returned (some (.long r)) ∧ t.heap = st.heap
abbrev zSr (r : Nat) : Array Value → State → Outcome → State → Prop := fun _ st o t => o = .returned (some (.ref r)) ∧ t.heap = st.heap
abbrev zSv : Array Value → State → Outcome → State → Prop := fun _ st o t => o = .returned none ∧ t.heap = st.heap
abbrev zQ (D : va_G) (rv : Option Value) (w1 : va_W) (A : Nat → Prop) : Array Value → State → Outcome → State → Prop := fun _ st o t => o = .returned rv ∧ (va_P D vwCl w1 t.heap ∧ va_D A w1) ∧ va_F A st t
section ZC
variable {p : Program} {l : Launch} {e : Env} {R : Room} {s : State} {m : MethodId} {args : Array Value} {below : List Frame} {meth : Method} {c : Code} {H : Heap} {locs : List Loc} {cells slots : Nat} {Q : State → Prop}
variable {cc : ByteArray} {pc : Nat} {ls : Array Slot} {rest st0 : List Value} {D : va_G} {A : Nat → Prop} {a : Array Value} {free : Addr → Prop}
theorem zcs {rv : Option Value} (hr : va_Run p l e R s m args below meth c H locs cells slots 0 0 (F0 m pc ls st0) rest (fun st o t => o = .returned rv ∧ t.heap = st.heap) (fun _ => False))
    (kk : W p l e R s m args below meth c H locs cells slots Q (F0 m (pc + 3) ls (rv.toList ++ rest))) : W p l e R s m args below meth c H locs cells slots Q (F0 m pc ls st0) := by
  intro T hT X
  obtain ⟨v, st₀, t, T', L, h0, X', hL, e1, e2, ⟨hv, hh⟩, st⟩ := hr T hT X
  cases hv
  have hL0 : L = [] := by
    cases L with
    | nil => rfl
    | cons x xs => exact (hL x List.mem_cons_self).elim
  subst hL0
  rw [List.append_nil] at X'
  obtain ⟨t2, a1, b1⟩ := kk T' (by rw [e1, hh, h0]) X'
  exact ⟨t2, st t2 a1, b1⟩
theorem zcm {rv : Option Value} {wc w1 ws wr : va_W} {H0 : Heap} (hr : va_Run p l e R s m args below meth c H locs cells slots 0 0 (F0 m pc ls st0) rest (zQ D rv w1 (va_A wc H.size) a) (va_A wc H.size))
    (hS : va_S A H0 H locs) (hP : va_P D vwCl ws H) (hD : va_D A ws) (hF : ∀ q, va_A wc H.size q → A q) (isC isR : List Nat) (hC : isC.map (fun i => ws[i]?) = wc.map some) (hR : isR.map (fun i => ws[i]?) = wr.map some) (hn : va_nd isR = true) (hdis : ∀ i ∈ isR, i ∉ isC)
    (kk : ∀ (H1 : Heap) (locs1 : List Loc), va_P D vwCl (wr ++ w1) H1 → va_D A (wr ++ w1) → va_S A H0 H1 locs1 → W p l e R s m args below meth c H1 locs1 cells slots Q (F0 m (pc + 3) ls (rv.toList ++ rest))) : W p l e R s m args below meth c H locs cells slots Q (F0 m pc ls st0) := by
  intro T hT X
  obtain ⟨v, st₀, t, T', L, h0, X', hL, e1, e2, ⟨hv, ⟨hP1, hD1⟩, hz, hk⟩, st⟩ := hr T hT X
  cases hv
  rw [h0] at hz hk
  rw [← e1] at hP1 hz
  have hk1 : ∀ q : Nat, q < H.size → ¬ va_A wc H.size q → T'.heap[q]? = H[q]? := fun q h1 h2 => by rw [e1]; exact hk q h1 h2
  obtain ⟨hPj, hDj⟩ := va_join (wr := wr) (w1 := w1) hP hD isC isR hC hR hn hdis hk1 hF hP1 hD1
  obtain ⟨t2, a1, b1⟩ := kk T'.heap (locs ++ L) hPj hDj ⟨Nat.le_trans hS.1 hz, fun q h1 h2 => by rw [hk1 q (Nat.lt_of_lt_of_le h1 hS.1) (fun z => h2 (hF q z))]; exact hS.2.1 q h1 h2, fun q hq => by
      rcases List.mem_append.mp hq with h | h
      · exact hS.2.2 q h
      · exact hF _ (hL q h)⟩ T' rfl X'
  exact ⟨t2, st t2 a1, b1⟩
end ZC
