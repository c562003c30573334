/-- the cells at the places is become xs -/
def zset (ws : va_W) : List Nat → va_W → va_W
  | [], _ => ws
  | i :: is, xs => match xs with
    | [] => ws
    | x :: xs => zset (ws.set i x) is xs
theorem zset_out : ∀ (is : List Nat) (xs ws : va_W) (k : Nat), k ∉ is → (zset ws is xs)[k]? = ws[k]?
  | [], _, _, _, _ => by simp only [zset]
  | _ :: _, [], _, _, _ => by simp only [zset]
  | i :: is, x :: xs, ws, k, h => by
    show (zset (ws.set i x) is xs)[k]? = ws[k]?
    rw [zset_out is xs (ws.set i x) k (fun q => h (List.mem_cons_of_mem _ q)), List.getElem?_set_ne (fun q => h (by rw [q]; exact List.mem_cons_self))]
theorem zset_in : ∀ (is : List Nat) (xs ws : va_W) (k : Nat) (q : Nat × va_E), va_nd is = true → k ∈ is → (zset ws is xs)[k]? = some q → (∃ j : Nat, xs[j]? = some q ∧ is[j]? = some k) ∨ (xs.length ≤ is.idxOf k ∧ ws[k]? = some q)
  | [], _, _, _, _, _, h, _ => nomatch h
  | i :: is, [], ws, k, q, _, _, hq => Or.inr ⟨Nat.zero_le _, hq⟩
  | i :: is, x :: xs, ws, k, q, hn, hk, hq => by
    have hq : (zset (ws.set i x) is xs)[k]? = some q := hq
    have hnd : i ∉ is ∧ va_nd is = true := by
      have h := hn
      simp only [va_nd, Bool.and_eq_true] at h
      refine ⟨?_, h.2⟩
      intro hi
      have h1 := h.1
      simp [hi] at h1
    by_cases hki : k = i
    · subst hki
      rw [zset_out is xs _ k hnd.1] at hq
      by_cases hl : k < ws.length
      · rw [List.getElem?_set_self hl] at hq
        exact Or.inl ⟨0, hq, rfl⟩
      · rw [List.getElem?_eq_none (by rw [List.length_set]; omega)] at hq
        cases hq
    · have hk2 : k ∈ is := by
        rcases List.mem_cons.mp hk with h | h
        · exact absurd h hki
        · exact h
      rcases zset_in is xs (ws.set i x) k q hnd.2 hk2 hq with ⟨j, h1, h2⟩ | ⟨h1, h2⟩
      · exact Or.inl ⟨j + 1, h1, h2⟩
      · rw [List.getElem?_set_ne (Ne.symm hki)] at h2
        refine Or.inr ⟨?_, h2⟩
        have e : (i :: is).idxOf k = is.idxOf k + 1 := by
          rw [List.idxOf_cons]
          have : (i == k) = false := by simp [Ne.symm hki]
          simp [this]
        rw [e]
        simpa using h1
section ZC2
variable {p : Program} {l : Launch} {e : Env} {R : Room} {s : State} {m : MethodId} {args : Array Value} {below : List Frame} {meth : Method} {c : Code} {H : Heap} {locs : List Loc} {cells slots : Nat} {Q : State → Prop}
variable {pc : Nat} {ls : Array Slot} {rest st0 : List Value} {D : va_G} {A : Nat → Prop} {a : Array Value}
theorem zjoin {wc w1 ws : va_W} {H1 : Heap} (hP : va_P D vwCl ws H) (hD : va_D A ws) (isC : List Nat) (hC : isC.map (fun i => ws[i]?) = wc.map some) (hn : va_nd isC = true) (hadr : w1.map Prod.fst = wc.map Prod.fst)
    (hk1 : ∀ q : Nat, q < H.size → ¬ va_A wc H.size q → H1[q]? = H[q]?) (hP1 : va_P D vwCl w1 H1) : va_P D vwCl (zset ws isC w1) H1 ∧ va_D A (zset ws isC w1) := by
  have hlen : isC.length = wc.length := by have := congrArg List.length hC; simpa using this
  have hlen1 : w1.length = wc.length := by have := congrArg List.length hadr; simpa using this
  have hcw : ∀ (j i : Nat), isC[j]? = some i → ∃ qc, wc[j]? = some qc ∧ ws[i]? = some qc := by
    intro j i hj
    have h1 : (isC.map (fun i => ws[i]?))[j]? = (wc.map some)[j]? := by rw [hC]
    rw [List.getElem?_map, List.getElem?_map, hj] at h1
    cases hw : wc[j]? with
    | none => rw [hw] at h1; simp at h1
    | some qc => rw [hw] at h1; exact ⟨qc, rfl, by simpa using h1⟩
  have hcase : ∀ (k : Nat) (q : Nat × va_E), (zset ws isC w1)[k]? = some q → (∃ (j : Nat) (qc : Nat × va_E), w1[j]? = some q ∧ isC[j]? = some k ∧ wc[j]? = some qc ∧ ws[k]? = some qc ∧ q.1 = qc.1) ∨ (k ∉ isC ∧ ws[k]? = some q) := by
    intro k q hq
    by_cases hk : k ∈ isC
    · rcases zset_in isC w1 ws k q hn hk hq with ⟨j, h1, h2⟩ | ⟨h1, h2⟩
      · obtain ⟨qc, h3, h4⟩ := hcw j k h2
        refine Or.inl ⟨j, qc, h1, h2, h3, h4, ?_⟩
        have h5 : (w1.map Prod.fst)[j]? = (wc.map Prod.fst)[j]? := by rw [hadr]
        rw [List.getElem?_map, List.getElem?_map, h1, h3] at h5
        simpa using h5
      · exfalso
        have := List.idxOf_lt_length_iff.mpr hk
        omega
    · rw [zset_out isC w1 ws k hk] at hq
      exact Or.inr ⟨hk, hq⟩
  constructor
  · intro k q hq
    rcases hcase k q hq with ⟨j, qc, h1, -, -, -, -⟩ | ⟨hk, h1⟩
    · exact hP1 j q h1
    · refine (hP k q h1).kept (hk1 q.1 (hP k q h1).lt ?_)
      rintro (⟨j, e9, h9⟩ | h9)
      · have hj : j < isC.length := by rw [hlen]; exact (List.getElem?_eq_some_iff.mp h9).1
        obtain ⟨i, hi⟩ : ∃ i, isC[j]? = some i := ⟨isC[j], List.getElem?_eq_getElem hj⟩
        obtain ⟨qc, h3, h4⟩ := hcw j i hi
        rw [h9] at h3
        cases h3
        have := hD.1 k i q _ h1 h4 rfl
        subst this
        exact hk (List.mem_of_getElem? hi)
      · exact absurd (hP k q h1).lt (by omega)
  · have hadr2 : ∀ (k : Nat) (q : Nat × va_E), (zset ws isC w1)[k]? = some q → ∃ q', ws[k]? = some q' ∧ q'.1 = q.1 := by
      intro k q hq
      rcases hcase k q hq with ⟨j, qc, -, -, -, h4, h5⟩ | ⟨hk, h1⟩
      · exact ⟨qc, h4, h5.symm⟩
      · exact ⟨q, h1, rfl⟩
    refine ⟨fun i j x y hi hj hxy => ?_, fun k q hq => ?_⟩
    · obtain ⟨x', h1, h2⟩ := hadr2 i x hi
      obtain ⟨y', h3, h4⟩ := hadr2 j y hj
      exact hD.1 i j x' y' h1 h3 (by rw [h2, h4, hxy])
    · obtain ⟨q', h1, h2⟩ := hadr2 k q hq
      rw [← h2]
      exact hD.2 k q' h1
theorem zcm2 {rv : Option Value} {wc w1 ws : va_W} {H0 : Heap} (hr : va_Run p l e R s m args below meth c H locs cells slots 0 0 (F0 m pc ls st0) rest (zQ D rv w1 (va_A wc H.size) a) (va_A wc H.size))
    (hS : va_S A H0 H locs) (hP : va_P D vwCl ws H) (hD : va_D A ws) (hF : ∀ q, va_A wc H.size q → A q) (isC : List Nat) (hC : isC.map (fun i => ws[i]?) = wc.map some) (hn : va_nd isC = true) (hadr : w1.map Prod.fst = wc.map Prod.fst)
    (kk : ∀ (H1 : Heap) (locs1 : List Loc), va_P D vwCl (zset ws isC w1) H1 → va_D A (zset ws isC w1) → va_S A H0 H1 locs1 → W p l e R s m args below meth c H1 locs1 cells slots Q (F0 m (pc + 3) ls (rv.toList ++ rest))) : W p l e R s m args below meth c H locs cells slots Q (F0 m pc ls st0) := by
  intro T hT X
  obtain ⟨v, st₀, t, T', L, h0, X', hL, e1, e2, ⟨hv, ⟨hP1, hD1⟩, hz, hk⟩, st⟩ := hr T hT X
  cases hv
  rw [h0] at hz hk
  rw [← e1] at hP1 hz
  have hk1 : ∀ q : Nat, q < H.size → ¬ va_A wc H.size q → T'.heap[q]? = H[q]? := fun q h1 h2 => by rw [e1]; exact hk q h1 h2
  obtain ⟨hPj, hDj⟩ := zjoin hP hD isC hC hn hadr hk1 hP1
  obtain ⟨t2, a1, b1⟩ := kk T'.heap (locs ++ L) hPj hDj ⟨Nat.le_trans hS.1 hz, fun q h1 h2 => by rw [hk1 q (Nat.lt_of_lt_of_le h1 hS.1) (fun z => h2 (hF q z))]; exact hS.2.1 q h1 h2, fun q hq => by
      rcases List.mem_append.mp hq with h | h
      · exact hS.2.2 q h
      · exact hF _ (hL q h)⟩ T' rfl X'
  exact ⟨t2, st t2 a1, b1⟩
end ZC2
/-! constructors: cells that come -/
abbrev zQI (D : va_G) (B : va_W → Prop) (A : Nat → Prop) : Array Value → State → Outcome → State → Prop := fun _ st o t => o = .returned none ∧ (∃ w1 : va_W, B w1 ∧ va_P D vwCl w1 t.heap ∧ va_D A w1) ∧ va_F A st t
section ZN
variable {p : Program} {l : Launch} {e : Env} {R : Room} {s : State} {m : MethodId} {args : Array Value} {below : List Frame} {meth : Method} {c : Code} {H : Heap} {locs : List Loc} {cells slots : Nat} {Q : State → Prop}
variable {cc : ByteArray} {pc : Nat} {ls : Array Slot} {rest st0 : List Value} {D : va_G} {cy : Nat → ClassId} {A : Nat → Prop} {a : Array Value} {ws : va_W} {H0 : Heap}
theorem zcx {B : va_W → Prop} {wc wr : va_W} {mc ms : Nat} (hr : va_Run p l e R s m args below meth c H locs cells slots mc ms (F0 m pc ls st0) rest (zQI D B (va_A wc H.size) a) (va_A wc H.size))
    (hS : va_S A H0 H locs) (hP : va_P D vwCl ws H) (hD : va_D A ws) (hF : ∀ q, va_A wc H.size q → A q) (isC isR : List Nat) (hC : isC.map (fun i => ws[i]?) = wc.map some) (hR : isR.map (fun i => ws[i]?) = wr.map some) (hn : va_nd isR = true) (hdis : ∀ i ∈ isR, i ∉ isC)
    (kk : ∀ (w1 : va_W) (H1 : Heap) (locs1 : List Loc), B w1 → va_P D vwCl (wr ++ w1) H1 → va_D A (wr ++ w1) → va_S A H0 H1 locs1 → W p l e R s m args below meth c H1 locs1 (cells + mc) (slots + ms) Q (F0 m (pc + 3) ls rest)) : W p l e R s m args below meth c H locs cells slots Q (F0 m pc ls st0) := by
  intro T hT X
  obtain ⟨v, st₀, t, T', L, h0, X', hL, e1, e2, ⟨hv, ⟨w1, hB, hP1, hD1⟩, hz, hk⟩, st⟩ := hr T hT X
  cases hv
  rw [h0] at hz hk
  rw [← e1] at hP1 hz
  have hk1 : ∀ q : Nat, q < H.size → ¬ va_A wc H.size q → T'.heap[q]? = H[q]? := fun q h1 h2 => by rw [e1]; exact hk q h1 h2
  obtain ⟨hPj, hDj⟩ := va_join (wr := wr) (w1 := w1) hP hD isC isR hC hR hn hdis hk1 hF hP1 hD1
  obtain ⟨t2, a1, b1⟩ := kk w1 T'.heap (locs ++ L) hB hPj hDj ⟨Nat.le_trans hS.1 hz, fun q h1 h2 => by rw [hk1 q (Nat.lt_of_lt_of_le h1 hS.1) (fun z => h2 (hF q z))]; exact hS.2.1 q h1 h2, fun q hq => by
      rcases List.mem_append.mp hq with h | h
      · exact hS.2.2 q h
      · exact hF _ (hL q h)⟩ T' rfl X'
  exact ⟨t2, st t2 a1, b1⟩
theorem znewI (hexec : p.tables.exec = Jvm.exec) (hb : c.code = cc) (harr : (Cond.arrayClass .int).before args s = true) (hK : va_K D vwCl (gTys cy) s) (hP : va_P D vwCl ws H) (hD : va_D A ws) (hS : va_S A H0 H locs) (hA : ∀ q, H0.size ≤ q → A q)
    {n : Int32} {N' : Nat} (hn : ¬ n < 0) (hN : n.toNatClampNeg = N') (hbytes : N' * componentBytes .int ≤ 536870912) (hcells : cells + 1 ≤ R.cells) (hslots : slots + N' ≤ R.slots) (hdg : decode cc pc = .ok (.newarray .int, 2))
    (kk : ∀ (q : Nat) (H1 : Heap), va_P D vwCl (ws ++ [(q, .inl (cy 1, N', .inl (fun _ => 0)))]) H1 → va_D A (ws ++ [(q, .inl (cy 1, N', .inl (fun _ => 0)))]) → va_S A H0 H1 locs → W p l e R s m args below meth c H1 locs (cells + 1) (slots + N') Q (F0 m (pc + 2) ls (.ref q :: rest))) : W p l e R s m args below meth c H locs cells slots Q (F0 m pc ls (.int n :: rest)) := by
  refine va_newa (atype := .int) (ty := .int) hexec hb harr rfl hK hP hD hS hA (a0 := (N', .inl (fun _ => 0))) (fun _ => rfl) hn hN hbytes hcells hslots hdg (fun q cA H1 hK1 hP1 hD1 hS1 => ?_)
  have e1 : s.vm.findClass _ = some cA := (hK1.2 5 (cA, .int) rfl).2
  have e2 : s.vm.findClass _ = some (cy 1) := (hK.2 1 (cy 1, .int) rfl).2
  have e : cA = cy 1 := Option.some.inj (e1.symm.trans e2)
  subst e
  exact kk q H1 hP1 hD1 hS1
theorem znewB (hexec : p.tables.exec = Jvm.exec) (hb : c.code = cc) (harr : (Cond.arrayClass .byte).before args s = true) (hK : va_K D vwCl (gTys cy) s) (hP : va_P D vwCl ws H) (hD : va_D A ws) (hS : va_S A H0 H locs) (hA : ∀ q, H0.size ≤ q → A q)
    {n : Int32} {N' : Nat} (hn : ¬ n < 0) (hN : n.toNatClampNeg = N') (hbytes : N' * componentBytes .byte ≤ 536870912) (hcells : cells + 1 ≤ R.cells) (hslots : slots + N' ≤ R.slots) (hdg : decode cc pc = .ok (.newarray .byte, 2))
    (kk : ∀ (q : Nat) (H1 : Heap), va_P D vwCl (ws ++ [(q, .inl (cy 0, N', .inl (fun _ => 0)))]) H1 → va_D A (ws ++ [(q, .inl (cy 0, N', .inl (fun _ => 0)))]) → va_S A H0 H1 locs → W p l e R s m args below meth c H1 locs (cells + 1) (slots + N') Q (F0 m (pc + 2) ls (.ref q :: rest))) : W p l e R s m args below meth c H locs cells slots Q (F0 m pc ls (.int n :: rest)) := by
  refine va_newa (atype := .byte) (ty := .byte) hexec hb harr rfl hK hP hD hS hA (a0 := (N', .inl (fun _ => 0))) (fun _ => rfl) hn hN hbytes hcells hslots hdg (fun q cA H1 hK1 hP1 hD1 hS1 => ?_)
  have e1 : s.vm.findClass _ = some cA := (hK1.2 5 (cA, .byte) rfl).2
  have e2 : s.vm.findClass _ = some (cy 0) := (hK.2 0 (cy 0, .byte) rfl).2
  have e : cA = cy 0 := Option.some.inj (e1.symm.trans e2)
  subst e
  exact kk q H1 hP1 hD1 hS1
theorem znewJ (hexec : p.tables.exec = Jvm.exec) (hb : c.code = cc) (harr : (Cond.arrayClass .long).before args s = true) (hK : va_K D vwCl (gTys cy) s) (hP : va_P D vwCl ws H) (hD : va_D A ws) (hS : va_S A H0 H locs) (hA : ∀ q, H0.size ≤ q → A q)
    {n : Int32} {N' : Nat} (hn : ¬ n < 0) (hN : n.toNatClampNeg = N') (hbytes : N' * componentBytes .long ≤ 536870912) (hcells : cells + 1 ≤ R.cells) (hslots : slots + N' ≤ R.slots) (hdg : decode cc pc = .ok (.newarray .long, 2))
    (kk : ∀ (q : Nat) (H1 : Heap), va_P D vwCl (ws ++ [(q, .inl (cy 2, N', .inr (.inl (fun _ => 0))))]) H1 → va_D A (ws ++ [(q, .inl (cy 2, N', .inr (.inl (fun _ => 0))))]) → va_S A H0 H1 locs → W p l e R s m args below meth c H1 locs (cells + 1) (slots + N') Q (F0 m (pc + 2) ls (.ref q :: rest))) : W p l e R s m args below meth c H locs cells slots Q (F0 m pc ls (.int n :: rest)) := by
  refine va_newa (atype := .long) (ty := .long) hexec hb harr rfl hK hP hD hS hA (a0 := (N', .inr (.inl (fun _ => 0)))) (fun _ => rfl) hn hN hbytes hcells hslots hdg (fun q cA H1 hK1 hP1 hD1 hS1 => ?_)
  have e1 : s.vm.findClass _ = some cA := (hK1.2 5 (cA, .long) rfl).2
  have e2 : s.vm.findClass _ = some (cy 2) := (hK.2 2 (cy 2, .long) rfl).2
  have e : cA = cy 2 := Option.some.inj (e1.symm.trans e2)
  subst e
  exact kk q H1 hP1 hD1 hS1
theorem znewZ (hexec : p.tables.exec = Jvm.exec) (hb : c.code = cc) (harr : (Cond.arrayClass .boolean).before args s = true) (hK : va_K D vwCl (gTys cy) s) (hP : va_P D vwCl ws H) (hD : va_D A ws) (hS : va_S A H0 H locs) (hA : ∀ q, H0.size ≤ q → A q)
    {n : Int32} {N' : Nat} (hn : ¬ n < 0) (hN : n.toNatClampNeg = N') (hbytes : N' * componentBytes .boolean ≤ 536870912) (hcells : cells + 1 ≤ R.cells) (hslots : slots + N' ≤ R.slots) (hdg : decode cc pc = .ok (.newarray .boolean, 2))
    (kk : ∀ (q : Nat) (H1 : Heap), va_P D vwCl (ws ++ [(q, .inl (cy 3, N', .inl (fun _ => 0)))]) H1 → va_D A (ws ++ [(q, .inl (cy 3, N', .inl (fun _ => 0)))]) → va_S A H0 H1 locs → W p l e R s m args below meth c H1 locs (cells + 1) (slots + N') Q (F0 m (pc + 2) ls (.ref q :: rest))) : W p l e R s m args below meth c H locs cells slots Q (F0 m pc ls (.int n :: rest)) := by
  refine va_newa (atype := .boolean) (ty := .boolean) hexec hb harr rfl hK hP hD hS hA (a0 := (N', .inl (fun _ => 0))) (fun _ => rfl) hn hN hbytes hcells hslots hdg (fun q cA H1 hK1 hP1 hD1 hS1 => ?_)
  have e1 : s.vm.findClass _ = some cA := (hK1.2 5 (cA, .boolean) rfl).2
  have e2 : s.vm.findClass _ = some (cy 3) := (hK.2 3 (cy 3, .boolean) rfl).2
  have e : cA = cy 3 := Option.some.inj (e1.symm.trans e2)
  subst e
  exact kk q H1 hP1 hD1 hS1
theorem znewQ (hexec : p.tables.exec = Jvm.exec) (hb : c.code = cc) {own : String} {index : Nat} (hown : s.vm.findClass own = some m.cls) (hclink : (Cond.classLink own index RX8).before args s = true) (hover : va_AO RX8 s) (hK : va_K D vwCl (gTys cy) s) (hP : va_P D vwCl ws H) (hD : va_D A ws) (hS : va_S A H0 H locs) (hA : ∀ q, H0.size ≤ q → A q)
    {n : Int32} {N' : Nat} (hn : ¬ n < 0) (hN : n.toNatClampNeg = N') (hbytes : N' * 4 ≤ 536870912) (hcells : cells + 1 ≤ R.cells) (hslots : slots + N' ≤ R.slots) (hdg : decode cc pc = .ok (.anewarray index, 3))
    (kk : ∀ (q : Nat) (H1 : Heap), va_P D vwCl (ws ++ [(q, .inl (cy 4, N', .inr (.inr (.inr (.inr (fun _ => none))))))]) H1 → va_D A (ws ++ [(q, .inl (cy 4, N', .inr (.inr (.inr (.inr (fun _ => none))))))]) → va_S A H0 H1 locs → W p l e R s m args below meth c H1 locs (cells + 1) (slots + N') Q (F0 m (pc + 3) ls (.ref q :: rest))) : W p l e R s m args below meth c H locs cells slots Q (F0 m pc ls (.int n :: rest)) := by
  refine va_newq hexec hb hown hclink hover hK hP hD hS hA hn hN hbytes hcells hslots hdg (fun q cA H1 hK1 hP1 hD1 hS1 => ?_)
  obtain ⟨_, _, _, _, _, e1⟩ := (hK1.2 5 (cA, .object RX8) rfl).2
  obtain ⟨_, _, _, _, _, e2⟩ := (hK.2 4 (cy 4, .object RX8) rfl).2
  have e : cA = cy 4 := Option.some.inj (e1.symm.trans e2)
  subst e
  exact kk q H1 hP1 hD1 hS1
end ZN
