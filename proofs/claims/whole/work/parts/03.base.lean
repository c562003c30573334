abbrev vwCl : List vw_C := [(RJ0, TJ0, 4), (RJ4, TJ4, 4), (RX0, TX0, 2), (RX1, TX1, 8), (RX2, TX2, 7), (RX3, TX3, 6), (RX4, TX4, 3), (RX5, TX5, 2), (RX6, TX6, 7), (RX7, TX7, 5), (RX8, TX8, 6), (RX9, TX9, 19), (RX10, TX10, 52)]
def zdt (c : ByteArray) (L : List (Nat × Instr × Nat)) : Bool := L.all (fun q => decide (decode c q.1 = .ok (q.2.1, q.2.2)))
theorem zdt_at {c : ByteArray} {L : List (Nat × Instr × Nat)} (h : zdt c L = true) (k : Nat) {pc : Nat} {i : Instr} {n : Nat} (hk : L[k]? = some (pc, i, n)) : decode c pc = .ok (i, n) := by
  have h1 := List.all_eq_true.mp h (pc, i, n) (List.mem_of_getElem? hk)
  simp only [decide_eq_true_eq] at h1
  exact h1
/-! my base: option programs (guards, names, joins, loops), the global facts, calls and returns over them -/
def zk {α : Type} (b : Prop) [Decidable b] (x : Option α) : Option α := if b then x else none
def zn {α β : Type} (v : α) (k : α → Option β) : Option β := k v
def zj {α β : Type} (K : α) (b : α → Option β) : Option β := b K
def zl {σ ρ : Type} (F : (σ → Option ρ) → σ → Option ρ) : Nat → σ → Option ρ
  | 0, _ => none
  | n + 1, s => F (zl F n) s
theorem zk_s {α : Type} {b : Prop} [Decidable b] {x : Option α} {r : α} (h : zk b x = some r) : b ∧ x = some r := by
  unfold zk at h
  by_cases hb : b
  · rw [if_pos hb] at h; exact ⟨hb, h⟩
  · rw [if_neg hb] at h; cases h
theorem zn_s {α β : Type} {v y : α} {k : α → Option β} {r : β} (h : zn v k = some r) (e : y = v) : k y = some r := by
  subst e; exact h
theorem zj_s {α β : Type} {K : α} {b : α → Option β} {r : β} (h : zj K b = some r) : ∃ K', K' = K ∧ b K' = some r := ⟨K, rfl, h⟩
theorem zt_s {α : Type} {c : Prop} [Decidable c] {a b : Option α} {r : α} (h : c) (e : (if c then a else b) = some r) : a = some r := by
  rw [if_pos h] at e; exact e
theorem ze_s {α : Type} {c : Prop} [Decidable c] {a b : Option α} {r : α} (h : ¬ c) (e : (if c then a else b) = some r) : b = some r := by
  rw [if_neg h] at e; exact e
theorem zb_s {α β : Type} {x : Option α} {k : α → Option β} {r : β} (h : x.bind k = some r) : ∃ a, x = some a ∧ k a = some r := by
  cases x with
  | none => cases h
  | some a => exact ⟨a, rfl, h⟩
theorem zl_go {σ ρ : Type} {F : (σ → Option ρ) → σ → Option ρ} {res : ρ} (G : σ → Prop) {n : Nat} {s : σ} (hf : zl F n s = some res)
    (step : ∀ self : σ → Option ρ, (∀ t, self t = some res → G t) → ∀ t, F self t = some res → G t) : G s := by
  have key : ∀ (n : Nat) (t : σ), zl F n t = some res → G t := by
    intro n
    induction n with
    | zero => intro t h; cases h
    | succ n ih => intro t h; exact step (zl F n) ih t h
  exact key n s hf
def tb_BOX : List Int32 := [99, 124, 119, 123, 242, 107, 111, 197, 48, 1, 103, 43, 254, 215, 171, 118, 202, 130, 201, 125, 250, 89, 71, 240, 173, 212, 162, 175, 156, 164, 114, 192, 183, 253, 147, 38, 54, 63, 247, 204, 52, 165, 229, 241, 113, 216, 49, 21, 4, 199, 35, 195, 24, 150, 5, 154, 7, 18, 128, 226, 235, 39, 178, 117, 9, 131, 44, 26, 27, 110, 90, 160, 82, 59, 214, 179, 41, 227, 47, 132, 83, 209, 0, 237, 32, 252, 177, 91, 106, 203, 190, 57, 74, 76, 88, 207, 208, 239, 170, 251, 67, 77, 51, 133, 69, 249, 2, 127, 80, 60, 159, 168, 81, 163, 64, 143, 146, 157, 56, 245, 188, 182, 218, 33, 16, 255, 243, 210, 205, 12, 19, 236, 95, 151, 68, 23, 196, 167, 126, 61, 100, 93, 25, 115, 96, 129, 79, 220, 34, 42, 144, 136, 70, 238, 184, 20, 222, 94, 11, 219, 224, 50, 58, 10, 73, 6, 36, 92, 194, 211, 172, 98, 145, 149, 228, 121, 231, 200, 55, 109, 141, 213, 78, 169, 108, 86, 244, 234, 101, 122, 174, 8, 186, 120, 37, 46, 28, 166, 180, 198, 232, 221, 116, 31, 75, 189, 139, 138, 112, 62, 181, 102, 72, 3, 246, 14, 97, 53, 87, 185, 134, 193, 29, 158, 225, 248, 152, 17, 105, 217, 142, 148, 155, 30, 135, 233, 206, 85, 40, 223, 140, 161, 137, 13, 191, 230, 66, 104, 65, 153, 45, 15, 176, 84, 187, 22]
def tb_BOX_BACK : List Int32 := [82, 9, 106, 213, 48, 54, 165, 56, 191, 64, 163, 158, 129, 243, 215, 251, 124, 227, 57, 130, 155, 47, 255, 135, 52, 142, 67, 68, 196, 222, 233, 203, 84, 123, 148, 50, 166, 194, 35, 61, 238, 76, 149, 11, 66, 250, 195, 78, 8, 46, 161, 102, 40, 217, 36, 178, 118, 91, 162, 73, 109, 139, 209, 37, 114, 248, 246, 100, 134, 104, 152, 22, 212, 164, 92, 204, 93, 101, 182, 146, 108, 112, 72, 80, 253, 237, 185, 218, 94, 21, 70, 87, 167, 141, 157, 132, 144, 216, 171, 0, 140, 188, 211, 10, 247, 228, 88, 5, 184, 179, 69, 6, 208, 44, 30, 143, 202, 63, 15, 2, 193, 175, 189, 3, 1, 19, 138, 107, 58, 145, 17, 65, 79, 103, 220, 234, 151, 242, 207, 206, 240, 180, 230, 115, 150, 172, 116, 34, 231, 173, 53, 133, 226, 249, 55, 232, 28, 117, 223, 110, 71, 241, 26, 113, 29, 41, 197, 137, 111, 183, 98, 14, 170, 24, 190, 27, 252, 86, 62, 75, 198, 210, 121, 32, 154, 219, 192, 254, 120, 205, 90, 244, 31, 221, 168, 51, 136, 7, 199, 49, 177, 18, 16, 89, 39, 128, 236, 95, 96, 81, 127, 169, 25, 181, 74, 13, 45, 229, 122, 159, 147, 201, 156, 239, 160, 224, 59, 77, 174, 42, 245, 176, 200, 235, 187, 60, 131, 83, 153, 97, 23, 43, 4, 126, 186, 119, 214, 38, 225, 105, 20, 99, 85, 33, 12, 125]
def tb_BEGINNING : List Int32 := [1779033703, (-1150833019), 1013904242, (-1521486534), 1359893119, (-1694144372), 528734635, 1541459225]
def tb_CONSTANTS : List Int32 := [1116352408, 1899447441, (-1245643825), (-373957723), 961987163, 1508970993, (-1841331548), (-1424204075), (-670586216), 310598401, 607225278, 1426881987, 1925078388, (-2132889090), (-1680079193), (-1046744716), (-459576895), (-272742522), 264347078, 604807628, 770255983, 1249150122, 1555081692, 1996064986, (-1740746414), (-1473132947), (-1341970488), (-1084653625), (-958395405), (-710438585), 113926993, 338241895, 666307205, 773529912, 1294757372, 1396182291, 1695183700, 1986661051, (-2117940946), (-1838011259), (-1564481375), (-1474664885), (-1035236496), (-949202525), (-778901479), (-694614492), (-200395387), 275423344, 430227734, 506948616, 659060556, 883997877, 958139571, 1322822218, 1537002063, 1747873779, 1955562222, 2024104815, (-2067236844), (-1933114872), (-1866530822), (-1538233109), (-1090935817), (-965641998)]
def tb_COUNTING_KEY : List Int64 := [283686952306183, 579005069656919567, 1157726452361532951, 1736447835066146335]
def tb_DOUBLED_DIGITS : List Int64 := [4822678189205111, (-8603657889541918977)]
def tb_AES_128_ANSWER : List Int64 := [7621463689521726512, (-2824399629016840870)]
def tb_AES_256_ANSWER : List Int64 := [(-8168764694519659073), (-1514254490616110967)]
def tb_MODES_KEY : List Int64 := [3133965575612453542, (-6055347499952025796)]
def tb_MODES_TEXT : List Int64 := [7764697111211319190, (-1640016075874429142), (-5895904230387766116), (-7010011509284696495)]
def tb_CBC_ANSWER : List Int64 := [8523532527164043846, (-3537139235634472579), 5802549037843487214, (-7648500598912419662)]
def tb_CTR_START : List Int64 := [(-1084818905618843913), (-506097522914230529)]
def tb_CTR_ANSWER : List Int64 := [(-8697188026928798938), 2012942339731732174, (-7492029988624859649), (-8784525628482257409)]
def tb_ZEROS : List Int64 := [0, 0]
def tb_GCM_ANSWER : List Int64 := [254693958867133330, (-925275621692342664), (-6093854269173394499), (-776193971258409505)]
def tb_CMAC_OF_NOTHING : List Int64 := [(-4963695585562904792), 9197332382891730758]
def tb_CMAC_OF_BLOCK : List Int64 := [507242872182751556, (-604646055077074820)]
def tb_ABC : List Int64 := [7017280021047803904]
def tb_ABC_DIGEST : List Int64 := [(-5010229573455851542), 4702110809750118947, (-5763655742878418276), (-5471592751118150227)]
def tb_JEFE : List Int64 := [5360803515432173568]
def tb_WHAT_DO_YA_WANT : List Int64 := [8604234239478886176, 8746307648438039584, 7381243797900850280, 7597123141701206016]
def tb_HMAC_ANSWER : List Int64 := [6619378061930427726, 7639270613698573767, 6485252769642396035, (-7067176161965754301)]
def tb_WRAP_ANSWER : List Int64 := [2280663138541155399, (-5840240896467371134), (-7116102874407186459)]
def gTab : List (String × String × String × FieldType × Nat × (Nat → Value)) := [
  (RX0, "BOX", "[I", .int, 256, fun j => .int (tb_BOX.getD j 0)),
  (RX0, "BOX_BACK", "[I", .int, 256, fun j => .int (tb_BOX_BACK.getD j 0)),
  (RX7, "BEGINNING", "[I", .int, 8, fun j => .int (tb_BEGINNING.getD j 0)),
  (RX7, "CONSTANTS", "[I", .int, 64, fun j => .int (tb_CONSTANTS.getD j 0)),
  (RX6, "COUNTING_KEY", "[J", .long, 4, fun j => .long (tb_COUNTING_KEY.getD j 0)),
  (RX6, "DOUBLED_DIGITS", "[J", .long, 2, fun j => .long (tb_DOUBLED_DIGITS.getD j 0)),
  (RX6, "AES_128_ANSWER", "[J", .long, 2, fun j => .long (tb_AES_128_ANSWER.getD j 0)),
  (RX6, "AES_256_ANSWER", "[J", .long, 2, fun j => .long (tb_AES_256_ANSWER.getD j 0)),
  (RX6, "MODES_KEY", "[J", .long, 2, fun j => .long (tb_MODES_KEY.getD j 0)),
  (RX6, "MODES_TEXT", "[J", .long, 4, fun j => .long (tb_MODES_TEXT.getD j 0)),
  (RX6, "CBC_ANSWER", "[J", .long, 4, fun j => .long (tb_CBC_ANSWER.getD j 0)),
  (RX6, "CTR_START", "[J", .long, 2, fun j => .long (tb_CTR_START.getD j 0)),
  (RX6, "CTR_ANSWER", "[J", .long, 4, fun j => .long (tb_CTR_ANSWER.getD j 0)),
  (RX6, "ZEROS", "[J", .long, 2, fun j => .long (tb_ZEROS.getD j 0)),
  (RX6, "GCM_ANSWER", "[J", .long, 4, fun j => .long (tb_GCM_ANSWER.getD j 0)),
  (RX6, "CMAC_OF_NOTHING", "[J", .long, 2, fun j => .long (tb_CMAC_OF_NOTHING.getD j 0)),
  (RX6, "CMAC_OF_BLOCK", "[J", .long, 2, fun j => .long (tb_CMAC_OF_BLOCK.getD j 0)),
  (RX6, "ABC", "[J", .long, 1, fun j => .long (tb_ABC.getD j 0)),
  (RX6, "ABC_DIGEST", "[J", .long, 4, fun j => .long (tb_ABC_DIGEST.getD j 0)),
  (RX6, "JEFE", "[J", .long, 1, fun j => .long (tb_JEFE.getD j 0)),
  (RX6, "WHAT_DO_YA_WANT", "[J", .long, 4, fun j => .long (tb_WHAT_DO_YA_WANT.getD j 0)),
  (RX6, "HMAC_ANSWER", "[J", .long, 4, fun j => .long (tb_HMAC_ANSWER.getD j 0)),
  (RX6, "WRAP_ANSWER", "[J", .long, 3, fun j => .long (tb_WRAP_ANSWER.getD j 0))]
def gNest : List (String × Nat × MethodName × String) := [(RX0, 17, yX9_intAt, "SealedModule"), (RX0, 34, yX9_putInt, "SealedModule"), (RX1, 52, yX9_putInt, "SealedModule"), (RX2, 51, yX9_alike, "SealedModule"), (RX2, 67, yX9_longAt, "SealedModule"), (RX2, 80, yX9_putInt, "SealedModule"), (RX2, 83, yX9_putLong, "SealedModule"), (RX4, 31, yX9_xorBytes, "SealedModule"), (RX4, 45, yX9_putInt, "SealedModule"), (RX4, 66, yX9_longAt, "SealedModule"), (RX4, 70, yX9_putLong, "SealedModule"), (RX6, 86, yX9_alike, "SealedModule"), (RX6, 182, yX9_putLong, "SealedModule"), (RX6, 214, yX9_longAt, "SealedModule"), (RX7, 47, yX9_putInt, "SealedModule"), (RX9, 37, yX1_init, "SealedModule"), (RX9, 44, yX7_init, "SealedModule"), (RX9, 54, yX0_init, "SealedModule"), (RX9, 115, yX8_init, "SealedModule")]
def gTys (cy : Nat → ClassId) : List (ClassId × FieldType) := [(cy 0, .byte), (cy 1, .int), (cy 2, .long), (cy 3, .boolean), (cy 4, .object RX8)]
def gNs (U : State) : Prop := ∀ (i : Nat) (q : String × Nat × MethodName × String), gNest[i]? = some q → va_Nw (.methodLinkNest q.1 q.2.1 q.2.2.1 q.2.2.2) U
def gT (tt : Nat → Nat) (A : Nat → Prop) (U : State) (H : Heap) : Prop := ∀ (i : Nat) (q : String × String × String × FieldType × Nat × (Nat → Value)), gTab[i]? = some q → va_Z q.1 q.2.1 q.2.2.1 (.ref (tt i)) A U H ∧ va_T q.2.2.2.1 (tt i) q.2.2.2.2.1 q.2.2.2.2.2 A U H
theorem gT.use {tt : Nat → Nat} {A : Nat → Prop} {u U : State} {H H1 : Heap} {B : Nat → Prop} (h : gT tt A u H) (hvm : u.vm.Alike U.vm) (hq : ∀ a : Nat, a < H.size → ¬ A a → H1[a]? = H[a]?) (hAB : ∀ q, B q → A q) : gT tt B U H1 := fun i q hi => ⟨((h i q hi).1.kept hq).narrow hAB |>.moved hvm, ((h i q hi).2.kept hq).narrow hAB |>.moved hvm⟩
theorem gNs.warm {s U : State} (hW : s.WarmedH U.vm) (h : gNs s) : gNs U := fun i q hi => va_Nw.warmM hW (h i q hi)
theorem gNs.same {s U : State} (hv : s.vm = U.vm) (h : gNs s) : gNs U := fun i q hi => va_Nw.same rfl hv (h i q hi)
/-- all that a contract asks of the state beside its cells -/
def gE (D : va_G) (cy : Nat → ClassId) (tt : Nat → Nat) (A : Nat → Prop) (U : State) : Prop := va_K D vwCl (gTys cy) U ∧ gNs U ∧ gT tt A U U.heap
theorem gE.use {D : va_G} {cy : Nat → ClassId} {tt : Nat → Nat} {A B : Nat → Prop} {s U : State} {H : Heap} {locs : List Loc} (h : gE D cy tt A s) (hW : s.WarmedH U.vm) (hU : U.heap = H) (hS : va_S A s.heap H locs) (hAB : ∀ q, B q → A q) : gE D cy tt B U :=
  ⟨va_K.moved hW.alike h.1, h.2.1.warm hW, by rw [hU]; exact h.2.2.use hW.alike hS.2.1 hAB⟩
/-- a contract's start: the arguments, the cells ws, the rest -/
abbrev zPc (D : va_G) (cy : Nat → ClassId) (tt : Nat → Nat) (sz : Nat) (av : List Value) (ws : va_W) : Array Value → State → Prop :=
  va_Pc av (fun U => U.heap.size = sz ∧ va_P D vwCl ws U.heap ∧ va_D (fun _ => True) ws ∧ gE D cy tt (va_A ws sz) U)
theorem zblind {D : va_G} {cy : Nat → ClassId} {tt : Nat → Nat} {sz : Nat} {av : List Value} {ws : va_W} : FrameBlind (zPc D cy tt sz av ws) := by
  intro a U g mk q
  obtain ⟨q0, q1, q2, q3, q4⟩ := q
  exact ⟨q0, q1, q2, q3, va_K.moved (u := U) (U := U.calling g mk a) (Vm.Alike.refl U.vm) q4.1, gNs.same (s := U) (U := U.calling g mk a) rfl q4.2.1, q4.2.2.use (U := U.calling g mk a) (Vm.Alike.refl U.vm) (fun _ _ _ => rfl) (fun _ h => h)⟩
theorem zpre {D : va_G} {cy : Nat → ClassId} {tt : Nat → Nat} {A : Nat → Prop} {s : State} {H : Heap} {locs : List Loc} {av : List Value} {wc : va_W} (hE : gE D cy tt A s) (hS : va_S A s.heap H locs) (hPc : va_P D vwCl wc H) (hDc : va_D A wc) (hF : ∀ q, va_A wc H.size q → A q) :
    ∀ U : State, U.heap = H → s.WarmedH U.vm → zPc D cy tt H.size av wc av.toArray U := fun _ hU hW => ⟨rfl, by rw [hU], by rw [hU]; exact hPc, hDc.weaken (fun _ _ _ _ => trivial), hE.use hW hU hS hF⟩
/-- ends: nothing changed; or the cells are w1 now -/
abbrev zSi (r : Int32) : Array Value → State → Outcome → State → Prop := fun _ st o t => o = .returned (some (.int r)) ∧ t.heap = st.heap
abbrev zSl (r : Int64) : Array Value → State → Outcome → State → Prop := fun _ st o t => o = .returned (some (.long r)) ∧ t.heap = st.heap
abbrev zSr (r : Nat) : Array Value → State → Outcome → State → Prop := fun _ st o t => o = .returned (some (.ref r)) ∧ t.heap = st.heap
abbrev zSv : Array Value → State → Outcome → State → Prop := fun _ st o t => o = .returned none ∧ t.heap = st.heap
abbrev zQ (D : va_G) (rv : Option Value) (w1 : va_W) (A : Nat → Prop) : Array Value → State → Outcome → State → Prop := fun _ st o t => o = .returned rv ∧ (va_P D vwCl w1 t.heap ∧ va_D A w1) ∧ va_F A st t
section ZC
variable {p : Program} {l : Launch} {e : Env} {R : Room} {s : State} {m : MethodId} {args : Array Value} {below : List Frame} {meth : Method} {c : Code} {H : Heap} {locs : List Loc} {cells slots : Nat} {Q : State → Prop}
variable {cc : ByteArray} {pc : Nat} {ls : Array Slot} {rest st0 : List Value} {D : va_G} {A : Nat → Prop} {a : Array Value} {free : Addr → Prop}
theorem zcs {rv : Option Value} (hr : va_Run p l e R s m args below meth c H locs cells slots 0 0 (F0 m pc ls st0) rest (fun st o t => o = .returned rv ∧ t.heap = st.heap) (fun _ => False))
    (kk : W p l e R s m args below meth c H locs cells slots Q (F0 m (pc + 3) ls (rv.toList ++ rest))) : W p l e R s m args below meth c H locs cells slots Q (F0 m pc ls st0) := by
  intro T hT X
  obtain ⟨v, st₀, t, T', L, h0, X', hL, e1, e2, ⟨hv, hh⟩, st⟩ := hr T hT X
  cases hv
  have hL0 : L = [] := by
    cases L with
    | nil => rfl
    | cons x xs => exact (hL x List.mem_cons_self).elim
  subst hL0
  rw [List.append_nil] at X'
  obtain ⟨t2, a1, b1⟩ := kk T' (by rw [e1, hh, h0]) X'
  exact ⟨t2, st t2 a1, b1⟩
theorem zcm {rv : Option Value} {wc w1 ws wr : va_W} {H0 : Heap} (hr : va_Run p l e R s m args below meth c H locs cells slots 0 0 (F0 m pc ls st0) rest (zQ D rv w1 (va_A wc H.size) a) (va_A wc H.size))
    (hS : va_S A H0 H locs) (hP : va_P D vwCl ws H) (hD : va_D A ws) (hF : ∀ q, va_A wc H.size q → A q) (isC isR : List Nat) (hC : isC.map (fun i => ws[i]?) = wc.map some) (hR : isR.map (fun i => ws[i]?) = wr.map some) (hn : va_nd isR = true) (hdis : ∀ i ∈ isR, i ∉ isC)
    (kk : ∀ (H1 : Heap) (locs1 : List Loc), va_P D vwCl (wr ++ w1) H1 → va_D A (wr ++ w1) → va_S A H0 H1 locs1 → W p l e R s m args below meth c H1 locs1 cells slots Q (F0 m (pc + 3) ls (rv.toList ++ rest))) : W p l e R s m args below meth c H locs cells slots Q (F0 m pc ls st0) := by
  intro T hT X
  obtain ⟨v, st₀, t, T', L, h0, X', hL, e1, e2, ⟨hv, ⟨hP1, hD1⟩, hz, hk⟩, st⟩ := hr T hT X
  cases hv
  rw [h0] at hz hk
  rw [← e1] at hP1 hz
  have hk1 : ∀ q : Nat, q < H.size → ¬ va_A wc H.size q → T'.heap[q]? = H[q]? := fun q h1 h2 => by rw [e1]; exact hk q h1 h2
  obtain ⟨hPj, hDj⟩ := va_join (wr := wr) (w1 := w1) hP hD isC isR hC hR hn hdis hk1 hF hP1 hD1
  obtain ⟨t2, a1, b1⟩ := kk T'.heap (locs ++ L) hPj hDj ⟨Nat.le_trans hS.1 hz, fun q h1 h2 => by rw [hk1 q (Nat.lt_of_lt_of_le h1 hS.1) (fun z => h2 (hF q z))]; exact hS.2.1 q h1 h2, fun q hq => by
      rcases List.mem_append.mp hq with h | h
      · exact hS.2.2 q h
      · exact hF _ (hL q h)⟩ T' rfl X'
  exact ⟨t2, st t2 a1, b1⟩
end ZC
