/-! the law's ground: classes, array classes, tables, what a throw needs -/
theorem zNest_in : ∀ q ∈ gNest, Cond.methodLinkNest q.1 q.2.1 q.2.2.1 q.2.2.2 ∈ lw_tbl := by decide +kernel
theorem gXw_in : ∀ w ∈ gXw, w ∈ lw_tbl := by decide +kernel
theorem zarrK {s : State} {args : Array Value} {ty : FieldType} (h : (Cond.arrayClass ty).before args s = true) : ∃ cA : ClassId, ArrOfT s cA ty ∧ s.vm.findClass ("[" ++ ty.toString) = some cA := by
  obtain ⟨cA, kA, comp, h1, h2, h3⟩ := Cond.arrayClass_spec h
  exact ⟨cA, fun n z => ⟨fun k h => (by cases h), kA, h2, comp, h3⟩, h1⟩
theorem zarrO {s : State} {C : String} (h : va_AO C s) : ∃ cA : ClassId, ArrOfT s cA (.object C) ∧ va_RA s cA (.object C) := by
  obtain ⟨comp, c, k, h1, h2, h3, h4, h5⟩ := Cond.arrayOver_spec h
  exact ⟨c, fun n z => ⟨fun k h => (by cases h), k, h3, comp, h4⟩, k, comp, h3, h4, h1, h5⟩
theorem zTx {s : State} {args : Array Value} {own tx : String} {k : Nat} (h1 : (Cond.stringRef own k tx).before args s = true) (h2 : (Cond.exactly (.string own k) "java/lang/String").before args s = true) : ∃ a : Nat, vk_R own k tx a s := by
  obtain ⟨a, c, cA, kA, q1, q2, q3, q4, q5, q6, -⟩ := Cond.exactly_spec (args := args) (first := s) (o := none) (s := s) (idx := []) (t := .string own k) (cls := "java/lang/String") h2
  exact ⟨a, vk_R.of h1 q1⟩
set_option maxRecDepth 20000 in
theorem zKn {s : State} {args : Array Value} (hts : ∀ w ∈ lw_tbl, w.before args s = true) : ∃ D : va_G, ∀ (k : Nat) (q : vw_C), vwCl[k]? = some q → u_Kn s q.1 q.2.1 q.2.2 (D.1 k) (D.2 k) := by
  obtain ⟨c0, i0, k0⟩ := u_known (C := RJ0) (T := TJ0) (N := 4) (n := 4) hts (by decide +kernel) (hts (.instantiable RJ0 4) (by decide +kernel))
  obtain ⟨c1, i1, k1⟩ := u_known (C := RJ4) (T := TJ4) (N := 4) (n := 4) hts in_wsJ40 (hts (.instantiable RJ4 4) (by decide +kernel))
  obtain ⟨c2, i2, k2⟩ := u_known (C := RX0) (T := TX0) (N := 2) (n := 2) hts in_wsX00 (hts (.instantiable RX0 2) (by decide +kernel))
  obtain ⟨c3, i3, k3⟩ := u_known (C := RX1) (T := TX1) (N := 8) (n := 8) hts in_wsX10 (hts (.instantiable RX1 8) (by decide +kernel))
  obtain ⟨c4, i4, k4⟩ := u_known (C := RX2) (T := TX2) (N := 7) (n := 7) hts in_wsX20 (hts (.instantiable RX2 7) (by decide +kernel))
  obtain ⟨c5, i5, k5⟩ := u_known (C := RX3) (T := TX3) (N := 6) (n := 6) hts in_wsX30 (hts (.instantiable RX3 6) (by decide +kernel))
  obtain ⟨c6, i6, k6⟩ := u_known (C := RX4) (T := TX4) (N := 3) (n := 3) hts in_wsX40 (hts (.instantiable RX4 3) (by decide +kernel))
  obtain ⟨c7, i7, k7⟩ := u_known (C := RX5) (T := TX5) (N := 2) (n := 2) hts in_wsX50 (hts (.instantiable RX5 2) (by decide +kernel))
  obtain ⟨c8, i8, k8⟩ := u_known (C := RX6) (T := TX6) (N := 7) (n := 7) hts in_wsX60 (hts (.instantiable RX6 7) (by decide +kernel))
  obtain ⟨c9, i9, k9⟩ := u_known (C := RX7) (T := TX7) (N := 5) (n := 5) hts in_wsX70 (hts (.instantiable RX7 5) (by decide +kernel))
  obtain ⟨c10, i10, k10⟩ := u_known (C := RX8) (T := TX8) (N := 6) (n := 6) hts in_wsX80 (hts (.instantiable RX8 6) (by decide +kernel))
  obtain ⟨c11, i11, k11⟩ := u_known (C := RX9) (T := TX9) (N := 19) (n := 19) hts in_wsX90 (hts (.instantiable RX9 19) (by decide +kernel))
  obtain ⟨c12, i12, k12⟩ := u_known (C := RX10) (T := TX10) (N := 52) (n := 52) hts in_wsX100 (hts (.instantiable RX10 52) (by decide +kernel))
  refine ⟨(fun k => [c0, c1, c2, c3, c4, c5, c6, c7, c8, c9, c10, c11, c12].getD k c0, fun k => [i0, i1, i2, i3, i4, i5, i6, i7, i8, i9, i10, i11, i12].getD k i0), ?_⟩
  intro k q hq
  have hk : k < 13 := (List.getElem?_eq_some_iff.mp hq).1
  rcases (show k = 0 ∨ k = 1 ∨ k = 2 ∨ k = 3 ∨ k = 4 ∨ k = 5 ∨ k = 6 ∨ k = 7 ∨ k = 8 ∨ k = 9 ∨ k = 10 ∨ k = 11 ∨ k = 12 by omega) with rfl | rfl | rfl | rfl | rfl | rfl | rfl | rfl | rfl | rfl | rfl | rfl | rfl
  · cases hq; exact k0
  · cases hq; exact k1
  · cases hq; exact k2
  · cases hq; exact k3
  · cases hq; exact k4
  · cases hq; exact k5
  · cases hq; exact k6
  · cases hq; exact k7
  · cases hq; exact k8
  · cases hq; exact k9
  · cases hq; exact k10
  · cases hq; exact k11
  · cases hq; exact k12
theorem zArr {s : State} {args : Array Value} (hts : ∀ w ∈ lw_tbl, w.before args s = true) : va_AO RX8 s ∧ ∃ cy : Nat → ClassId, ∀ (k : Nat) (q : ClassId × FieldType), (gTys cy)[k]? = some q → ArrOfT s q.1 q.2 ∧ va_RA s q.1 q.2 := by
  have hAO : va_AO RX8 s := va_AO.of (hts (.arrayOver (.object RX8)) (by decide +kernel))
  obtain ⟨c0, a0, n0⟩ := zarrK (hts (.arrayClass .byte) (by decide +kernel))
  obtain ⟨c1, a1, n1⟩ := zarrK (hts (.arrayClass .int) (by decide +kernel))
  obtain ⟨c2, a2, n2⟩ := zarrK (hts (.arrayClass .long) (by decide +kernel))
  obtain ⟨c3, a3, n3⟩ := zarrK (hts (.arrayClass .boolean) (by decide +kernel))
  obtain ⟨c4, a4, n4⟩ := zarrO hAO
  refine ⟨hAO, fun k => [c0, c1, c2, c3, c4].getD k c0, ?_⟩
  intro k q hq
  have hk : k < 5 := (List.getElem?_eq_some_iff.mp hq).1
  rcases (show k = 0 ∨ k = 1 ∨ k = 2 ∨ k = 3 ∨ k = 4 by omega) with rfl | rfl | rfl | rfl | rfl
  · cases hq; exact ⟨a0, n0⟩
  · cases hq; exact ⟨a1, n1⟩
  · cases hq; exact ⟨a2, n2⟩
  · cases hq; exact ⟨a3, n3⟩
  · cases hq; exact ⟨a4, n4⟩
set_option maxRecDepth 20000 in
theorem zTabs {s : State} {args : Array Value} {A : Nat → Prop} (hts : ∀ w ∈ lw_tbl, w.before args s = true) (hs : ∀ w ∈ zFl, w.before args s = true) (hA : ∀ a : Nat, a < s.heap.size → ¬ A a) : ∃ tt : Nat → Nat, gT tt A s s.heap := by
  have key : ∀ i : Nat, ∃ t : Nat, ∀ q : String × String × String × FieldType × Nat × (Nat → Value), gTab[i]? = some q → va_Z q.1 q.2.1 q.2.2.1 (.ref t) A s s.heap ∧ va_T q.2.2.2.1 t q.2.2.2.2.1 q.2.2.2.2.2 A s s.heap := by
    intro i
    by_cases hi : i < 23
    · rcases (show i = 0 ∨ i = 1 ∨ i = 2 ∨ i = 3 ∨ i = 4 ∨ i = 5 ∨ i = 6 ∨ i = 7 ∨ i = 8 ∨ i = 9 ∨ i = 10 ∨ i = 11 ∨ i = 12 ∨ i = 13 ∨ i = 14 ∨ i = 15 ∨ i = 16 ∨ i = 17 ∨ i = 18 ∨ i = 19 ∨ i = 20 ∨ i = 21 ∨ i = 22 by omega) with rfl | rfl | rfl | rfl | rfl | rfl | rfl | rfl | rfl | rfl | rfl | rfl | rfl | rfl | rfl | rfl | rfl | rfl | rfl | rfl | rfl | rfl | rfl
      · obtain ⟨t, h1, h2⟩ := zTabI (A := A) hs zsg_0 (by decide) (hts (.laysStatic RX0 "BOX" "[I") (by decide +kernel)) (hts (.initialized RX0) (by decide +kernel)) hA
        exact ⟨t, fun q hq => by cases hq; exact ⟨h1, h2⟩⟩
      · obtain ⟨t, h1, h2⟩ := zTabI (A := A) hs zsg_1 (by decide) (hts (.laysStatic RX0 "BOX_BACK" "[I") (by decide +kernel)) (hts (.initialized RX0) (by decide +kernel)) hA
        exact ⟨t, fun q hq => by cases hq; exact ⟨h1, h2⟩⟩
      · obtain ⟨t, h1, h2⟩ := zTabI (A := A) hs zsg_2 (by decide) (hts (.laysStatic RX7 "BEGINNING" "[I") (by decide +kernel)) (hts (.initialized RX7) (by decide +kernel)) hA
        exact ⟨t, fun q hq => by cases hq; exact ⟨h1, h2⟩⟩
      · obtain ⟨t, h1, h2⟩ := zTabI (A := A) hs zsg_3 (by decide) (hts (.laysStatic RX7 "CONSTANTS" "[I") (by decide +kernel)) (hts (.initialized RX7) (by decide +kernel)) hA
        exact ⟨t, fun q hq => by cases hq; exact ⟨h1, h2⟩⟩
      · obtain ⟨t, h1, h2⟩ := zTabL (A := A) hs zsg_4 (by decide) (hts (.laysStatic RX6 "COUNTING_KEY" "[J") (by decide +kernel)) (hts (.initialized RX6) (by decide +kernel)) hA
        exact ⟨t, fun q hq => by cases hq; exact ⟨h1, h2⟩⟩
      · obtain ⟨t, h1, h2⟩ := zTabL (A := A) hs zsg_5 (by decide) (hts (.laysStatic RX6 "DOUBLED_DIGITS" "[J") (by decide +kernel)) (hts (.initialized RX6) (by decide +kernel)) hA
        exact ⟨t, fun q hq => by cases hq; exact ⟨h1, h2⟩⟩
      · obtain ⟨t, h1, h2⟩ := zTabL (A := A) hs zsg_6 (by decide) (hts (.laysStatic RX6 "AES_128_ANSWER" "[J") (by decide +kernel)) (hts (.initialized RX6) (by decide +kernel)) hA
        exact ⟨t, fun q hq => by cases hq; exact ⟨h1, h2⟩⟩
      · obtain ⟨t, h1, h2⟩ := zTabL (A := A) hs zsg_7 (by decide) (hts (.laysStatic RX6 "AES_256_ANSWER" "[J") (by decide +kernel)) (hts (.initialized RX6) (by decide +kernel)) hA
        exact ⟨t, fun q hq => by cases hq; exact ⟨h1, h2⟩⟩
      · obtain ⟨t, h1, h2⟩ := zTabL (A := A) hs zsg_8 (by decide) (hts (.laysStatic RX6 "MODES_KEY" "[J") (by decide +kernel)) (hts (.initialized RX6) (by decide +kernel)) hA
        exact ⟨t, fun q hq => by cases hq; exact ⟨h1, h2⟩⟩
      · obtain ⟨t, h1, h2⟩ := zTabL (A := A) hs zsg_9 (by decide) (hts (.laysStatic RX6 "MODES_TEXT" "[J") (by decide +kernel)) (hts (.initialized RX6) (by decide +kernel)) hA
        exact ⟨t, fun q hq => by cases hq; exact ⟨h1, h2⟩⟩
      · obtain ⟨t, h1, h2⟩ := zTabL (A := A) hs zsg_10 (by decide) (hts (.laysStatic RX6 "CBC_ANSWER" "[J") (by decide +kernel)) (hts (.initialized RX6) (by decide +kernel)) hA
        exact ⟨t, fun q hq => by cases hq; exact ⟨h1, h2⟩⟩
      · obtain ⟨t, h1, h2⟩ := zTabL (A := A) hs zsg_11 (by decide) (hts (.laysStatic RX6 "CTR_START" "[J") (by decide +kernel)) (hts (.initialized RX6) (by decide +kernel)) hA
        exact ⟨t, fun q hq => by cases hq; exact ⟨h1, h2⟩⟩
      · obtain ⟨t, h1, h2⟩ := zTabL (A := A) hs zsg_12 (by decide) (hts (.laysStatic RX6 "CTR_ANSWER" "[J") (by decide +kernel)) (hts (.initialized RX6) (by decide +kernel)) hA
        exact ⟨t, fun q hq => by cases hq; exact ⟨h1, h2⟩⟩
      · obtain ⟨t, h1, h2⟩ := zTabL (A := A) hs zsg_13 (by decide) (hts (.laysStatic RX6 "ZEROS" "[J") (by decide +kernel)) (hts (.initialized RX6) (by decide +kernel)) hA
        exact ⟨t, fun q hq => by cases hq; exact ⟨h1, h2⟩⟩
      · obtain ⟨t, h1, h2⟩ := zTabL (A := A) hs zsg_14 (by decide) (hts (.laysStatic RX6 "GCM_ANSWER" "[J") (by decide +kernel)) (hts (.initialized RX6) (by decide +kernel)) hA
        exact ⟨t, fun q hq => by cases hq; exact ⟨h1, h2⟩⟩
      · obtain ⟨t, h1, h2⟩ := zTabL (A := A) hs zsg_15 (by decide) (hts (.laysStatic RX6 "CMAC_OF_NOTHING" "[J") (by decide +kernel)) (hts (.initialized RX6) (by decide +kernel)) hA
        exact ⟨t, fun q hq => by cases hq; exact ⟨h1, h2⟩⟩
      · obtain ⟨t, h1, h2⟩ := zTabL (A := A) hs zsg_16 (by decide) (hts (.laysStatic RX6 "CMAC_OF_BLOCK" "[J") (by decide +kernel)) (hts (.initialized RX6) (by decide +kernel)) hA
        exact ⟨t, fun q hq => by cases hq; exact ⟨h1, h2⟩⟩
      · obtain ⟨t, h1, h2⟩ := zTabL (A := A) hs zsg_17 (by decide) (hts (.laysStatic RX6 "ABC" "[J") (by decide +kernel)) (hts (.initialized RX6) (by decide +kernel)) hA
        exact ⟨t, fun q hq => by cases hq; exact ⟨h1, h2⟩⟩
      · obtain ⟨t, h1, h2⟩ := zTabL (A := A) hs zsg_18 (by decide) (hts (.laysStatic RX6 "ABC_DIGEST" "[J") (by decide +kernel)) (hts (.initialized RX6) (by decide +kernel)) hA
        exact ⟨t, fun q hq => by cases hq; exact ⟨h1, h2⟩⟩
      · obtain ⟨t, h1, h2⟩ := zTabL (A := A) hs zsg_19 (by decide) (hts (.laysStatic RX6 "JEFE" "[J") (by decide +kernel)) (hts (.initialized RX6) (by decide +kernel)) hA
        exact ⟨t, fun q hq => by cases hq; exact ⟨h1, h2⟩⟩
      · obtain ⟨t, h1, h2⟩ := zTabL (A := A) hs zsg_20 (by decide) (hts (.laysStatic RX6 "WHAT_DO_YA_WANT" "[J") (by decide +kernel)) (hts (.initialized RX6) (by decide +kernel)) hA
        exact ⟨t, fun q hq => by cases hq; exact ⟨h1, h2⟩⟩
      · obtain ⟨t, h1, h2⟩ := zTabL (A := A) hs zsg_21 (by decide) (hts (.laysStatic RX6 "HMAC_ANSWER" "[J") (by decide +kernel)) (hts (.initialized RX6) (by decide +kernel)) hA
        exact ⟨t, fun q hq => by cases hq; exact ⟨h1, h2⟩⟩
      · obtain ⟨t, h1, h2⟩ := zTabL (A := A) hs zsg_22 (by decide) (hts (.laysStatic RX6 "WRAP_ANSWER" "[J") (by decide +kernel)) (hts (.initialized RX6) (by decide +kernel)) hA
        exact ⟨t, fun q hq => by cases hq; exact ⟨h1, h2⟩⟩
    · exact ⟨0, fun q hq => absurd (List.getElem?_eq_some_iff.mp hq).1 hi⟩
  obtain ⟨tt, htt⟩ := Classical.axiomOfChoice key
  exact ⟨tt, fun i q hi => htt i q hi⟩
theorem zmemF {k : Nat} {w : Cond} (h : zFl[k]? = some w) : w ∈ zFl := List.mem_of_getElem? h
set_option maxRecDepth 20000 in
theorem zGX {s : State} {args : Array Value} {A : Nat → Prop} (hts : ∀ w ∈ lw_tbl, w.before args s = true) (hs : ∀ w ∈ zFl, w.before args s = true) (hA : ∀ a : Nat, a < s.heap.size → ¬ A a) : ∃ tx : Nat → Nat, gX tx A s := by
  obtain ⟨a0, r0⟩ := zTx (own := RX9) (k := 138) (tx := "no such test") (hts (.stringRef RX9 138 "no such test") (by decide +kernel)) (hs _ (List.mem_of_getElem? (i := 999) rfl))
  obtain ⟨a1, r1⟩ := zTx (own := RX9) (k := 145) (tx := "the module is off") (hts (.stringRef RX9 145 "the module is off") (by decide +kernel)) (hs _ (List.mem_of_getElem? (i := 1019) rfl))
  obtain ⟨a2, r2⟩ := zTx (own := RX9) (k := 152) (tx := "no such bytes of the buffer") (hts (.stringRef RX9 152 "no such bytes of the buffer") (by decide +kernel)) (hs _ (List.mem_of_getElem? (i := 1045) rfl))
  obtain ⟨a3, r3⟩ := zTx (own := RX9) (k := 181) (tx := "nobody is logged in") (hts (.stringRef RX9 181 "nobody is logged in") (by decide +kernel)) (hs _ (List.mem_of_getElem? (i := 1082) rfl))
  obtain ⟨a4, r4⟩ := zTx (own := RX9) (k := 199) (tx := "no such slot or what") (hts (.stringRef RX9 199 "no such slot or what") (by decide +kernel)) (hs _ (List.mem_of_getElem? (i := 1112) rfl))
  obtain ⟨a5, r5⟩ := zTx (own := RX9) (k := 391) (tx := "no such counter") (hts (.stringRef RX9 391 "no such counter") (by decide +kernel)) (hs _ (List.mem_of_getElem? (i := 1144) rfl))
  obtain ⟨a6, r6⟩ := zTx (own := RX9) (k := 393) (tx := "no such slot") (hts (.stringRef RX9 393 "no such slot") (by decide +kernel)) (hs _ (List.mem_of_getElem? (i := 1172) rfl))
  refine ⟨fun k => [a0, a1, a2, a3, a4, a5, a6].getD k 0, ?_, ?_, ?_, r0, r1, r2, r3, r4, r5, r6⟩
  · exact vx_Zqof (hts (.laysStatic Bundle.tN "UNASSIGNED_STACK" Bundle.steD) (by decide +kernel)) (hts (.initialized Bundle.tN) (by decide +kernel)) (hs _ (List.mem_of_getElem? (i := 679) rfl)) hA
  · exact vx_Zqof (hts (.laysStatic Bundle.tN "SUPPRESSED_SENTINEL" Bundle.listD) (by decide +kernel)) (hts (.initialized Bundle.tN) (by decide +kernel)) (hs _ (List.mem_of_getElem? (i := 680) rfl)) hA
  · exact fun a w hw => zkp_use (a := args) (gXw_k w hw) (State.WarmedH.refl s) (hts w (gXw_in w hw))
set_option maxRecDepth 20000 in
theorem law_ctx {p : Program} {l : Launch} {s : State} {m : MethodId} {meth : Method} {c : Code} {b L : Nat} {xs : Nat → Int32} (hlt : l.stackTraces = false) (C0 : lw_At p s m meth c b L xs) : ∃ (D : va_G) (cy : Nat → ClassId) (tt tx : Nat → Nat), LC p l s m c b L xs D cy tt tx ∧ va_AO RX8 s := by
  obtain ⟨hx, hb, hr, hml, hown, hts, hX, hbl, hlocks, hgv⟩ := C0
  have hs : ∀ w ∈ zFl, w.before #[Value.ref b] s = true := flat_of_before _ hgv
  have hA : ∀ a : Nat, a < s.heap.size → ¬ LA s a := fun a h q => absurd h (Nat.not_lt.mpr q)
  obtain ⟨D, hD⟩ := zKn hts
  obtain ⟨hAO, cy, hcy⟩ := zArr hts
  obtain ⟨tt, htt⟩ := zTabs (A := LA s) hts hs hA
  obtain ⟨tx, htx⟩ := zGX (A := LA s) hts hs hA
  refine ⟨D, cy, tt, tx, ⟨hx, hb, hml, hown, fun w hw => hts w (wsL_law_in w hw), hX, hbl, ⟨⟨hD, hcy⟩, fun i q hi => va_Nw.of rfl (hts _ (zNest_in q (List.mem_of_getElem? hi))), htt⟩, htx, va_Nc.of (hs _ (List.mem_of_getElem? (i := 936) rfl)), hlt⟩, hAO⟩
